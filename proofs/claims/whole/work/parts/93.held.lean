/-! L2: the reference's reader of texts, as a function of the tokens -/
def rkS (s : Nat) : Nat := if s = 0 then 0 else if s = 11 then 1 else if s = 12 then 2 else if s = 13 then 3 else if s ≤ 15 then 4 else if s ≤ 17 then 5 else if s = 18 then 6 else 7
def isO (s : Nat) : Nat := if s = 13 ∨ s = 19 then 1 else 0
def isP (s : Nat) : Nat := if s = 0 ∨ s = 13 ∨ s = 19 then 1 else 0
def uwE (l : Nat) : List Nat → List Nat
  | [] => []
  | s :: h => if rkS s < l then [] else s :: uwE l h
def uwH (l : Nat) : List Nat → List Nat
  | [] => []
  | s :: h => if rkS s < l then s :: h else uwH l h
def uwX (l : Nat) : List Nat → Nat → Nat
  | [], x => x
  | s :: h, x => if rkS s < l then x else uwX l h (x - isO s)
def cO : List Nat → Nat
  | [] => 0
  | s :: h => isP s + cO h
def hdR : List Nat → Nat
  | [] => 9
  | s :: _ => rkS s
def sgO (t : Nat) : Option Nat := if t = 203 then some 11 else if t = 204 then some 12 else if t = 60 then some 14 else if t = 61 then some 15 else if t = 43 then some 16 else if t = 45 then some 17 else if t = 42 then some 18 else none
def lvS (s : Nat) : Nat := if rkS s = 4 then 5 else rkS s
def kR (tk nx vl : Nat → Nat) : Nat → Bool → Bool → Nat → List Nat → Nat → List Nat → Bool × Nat × List Nat
  | 0, _, _, a, _, _, o => (false, a, o)
  | f + 1, w, m, a, h, x, o =>
    if w = true then
      if tk a = 300 then kR tk nx vl f false m (nx a) (uwH 7 h) (uwX 7 h x) (o ++ (100000 + vl a) :: uwE 7 h)
      else if tk a = 301 then kR tk nx vl f false m (nx a) (uwH 7 h) (uwX 7 h x) (o ++ vl a :: uwE 7 h)
      else if tk a = 205 ∧ m = true then (if x = 5 then (false, a, o) else kR tk nx vl f true m (nx a) (13 :: h) (x + 1) o)
      else if tk a = 45 then (if x = 5 then (false, a, o) else kR tk nx vl f true false (nx a) (19 :: h) (x + 1) o)
      else if tk a = 40 then (if x = 5 then (false, a, o) else kR tk nx vl f true true (nx a) (0 :: h) (x + 1) o)
      else (false, a, o)
    else if tk a = 59 then (decide (uwH 1 h = []), a, o ++ uwE 1 h)
    else if tk a = 41 then (match uwH 1 h with
      | [] => (false, a, o ++ uwE 1 h)
      | _ :: h' => kR tk nx vl f false m (nx a) (uwH 7 h') (uwX 7 h' (uwX 1 h x - 1)) (o ++ uwE 1 h ++ uwE 7 h'))
    else match sgO (tk a) with
      | none => (false, a, o)
      | some s => if rkS s = 4 ∧ hdR (uwH (lvS s) h) = 4 then (false, a, o ++ uwE (lvS s) h) else kR tk nx vl f true (decide (s ≤ 12)) (nx a) (s :: uwH (lvS s) h) (uwX (lvS s) h x) (o ++ uwE (lvS s) h)
/-- what is held, and what came -/
def HS (i : Nat) (R : Mem) (h : List Nat) (x : Nat) (o : List Nat) : Prop := FI R 100 12 = nI i ∧ FI R 100 28 = nI h.length ∧ (∀ k, k < h.length → AI R 116 k = nI (h.reverse.getD k 0)) ∧ FI R 100 29 = nI x ∧ FI R 100 30 = nI o.length ∧ ∀ k, k < o.length → AI R 107 (200 * i + k) = nI (o.getD k 0)
/-- only what is held and what came is another one -/
def Ku (i : Nat) (R R' : Mem) : Prop := (∀ k, (k < 28 ∨ 30 < k) → FI R' 100 k = FI R 100 k) ∧ (∀ k, FJ R' 100 k = FJ R 100 k) ∧ (∀ b, b ≠ 107 → b ≠ 116 → AI R' b = AI R b) ∧ ∀ q, q < 200 * i ∨ 200 * i + 200 ≤ q → AI R' 107 q = AI R 107 q
theorem Ku.rf (i : Nat) (R : Mem) : Ku i R R := ⟨fun _ _ => rfl, fun _ => rfl, fun _ _ _ => rfl, fun _ _ => rfl⟩
theorem Ku.tr {i : Nat} {R R1 R2 : Mem} (h : Ku i R R1) (g : Ku i R1 R2) : Ku i R R2 := ⟨fun k hk => (g.1 k hk).trans (h.1 k hk), fun k => (g.2.1 k).trans (h.2.1 k), fun b h1 h2 => (g.2.2.1 b h1 h2).trans (h.2.2.1 b h1 h2), fun q hq => (g.2.2.2 q hq).trans (h.2.2.2 q hq)⟩
theorem Ku.fi (i : Nat) (R : Mem) {k : Nat} (v : Int32) (h : 28 ≤ k ∧ k ≤ 30) : Ku i R (sFI R 100 k v) := ⟨fun j hj => FI_n (by omega), fun _ => rfl, fun _ _ _ => rfl, fun _ _ => rfl⟩
theorem Ku.hold (i : Nat) (R : Mem) (k : Nat) (v : Int32) : Ku i R (sAI R 116 k v) := ⟨fun _ _ => rfl, fun _ => rfl, fun b _ hb => AI_nf hb, fun q _ => AI_na (by decide)⟩
theorem Ku.out (i : Nat) (R : Mem) {k : Nat} (v : Int32) (h : k < 200) : Ku i R (sAI R 107 (200 * i + k) v) := ⟨fun _ _ => rfl, fun _ => rfl, fun b hb _ => AI_nf hb, fun q hq => AI_n (by omega)⟩
theorem Tr.ku {i : Nat} {R R' : Mem} {b : Nat → Nat} {n : Nat} (h : Tr R b n) (g : Ku i R R') : Tr R' b n := ⟨(g.1 9 (by omega)).trans h.1, fun k hk => by rw [g.2.2.1 106 (by decide) (by decide)]; exact h.2.1 k hk, fun k hk => by rw [g.2.2.1 115 (by decide) (by decide)]; exact h.2.2 k hk⟩
theorem rank_tab : ∀ s, s < 20 → (if nI s = 0 then some (0 : Int32) else (if nI s = (11 : Int32) then some (1 : Int32) else (if nI s = (12 : Int32) then some (2 : Int32) else (if nI s = (13 : Int32) then some (3 : Int32) else (if (15 : Int32) < nI s then (if (17 : Int32) < nI s then (if nI s = (18 : Int32) then some (6 : Int32) else some (7 : Int32)) else some (5 : Int32)) else some (4 : Int32)))))) = some (nI (rkS s)) := by decide +kernel
theorem rank_r {s : Nat} (h : s < 20) (R : Mem) : f_X6_rank (nI s) R = some (nI (rkS s)) := rank_tab s h
theorem rkS_le (s : Nat) : rkS s ≤ 7 := by
  unfold rkS
  (repeat' split) <;> omega
theorem puts_r {i c : Nat} {R : Mem} {h : List Nat} {x : Nat} {o : List Nat} (hi : i < 6) (hS : HS i R h x o) (ho : o.length < 200) : ∃ R', f_X6_puts (nI c) R = some R' ∧ Ku i R R' ∧ HS i R' h x (o ++ [c]) := by
  obtain ⟨h1, h2, h3, h4, h5, h6⟩ := hS
  unfold f_X6_puts b_X6_puts_0 b_X6_puts_19
  rw [h1, h5, show (200 : Int32) * nI i + nI o.length = nI (200 * i + o.length) by rw [show (200 : Int32) * nI i = nI (200 * i) from pk_mul 200 i, nI_add], gdn (n := len 107) (show 200 * i + o.length < 1200 by omega) (by decide), nI_clamp (by omega), FI_sAI, h5, nI_1]
  refine ⟨_, rfl, (Ku.out i R _ ho).tr (Ku.fi i _ _ (by omega)), (FI_n (by decide)).trans h1, (FI_n (by decide)).trans h2, fun k hk => ?_, (FI_n (by decide)).trans h4, ?_, fun k hk => ?_⟩
  · show AI (sAI R 107 (200 * i + o.length) (nI c)) 116 k = _
    rw [AI_na (by decide)]; exact h3 k hk
  · rw [FI_s, List.length_append]
    rfl
  · rw [List.length_append] at hk
    have hk : k < o.length + 1 := hk
    show AI (sAI R 107 (200 * i + o.length) (nI c)) 107 (200 * i + k) = _
    by_cases e : k = o.length
    · rw [e, AI_s, List.getD_eq_getElem?_getD, List.getElem?_append_right (Nat.le_refl _), Nat.sub_self]
      rfl
    · rw [AI_n (by omega), List.getD_eq_getElem?_getD, List.getElem?_append_left (by omega), ← List.getD_eq_getElem?_getD]
      exact h6 k (by omega)
theorem top_at (s : Nat) (h : List Nat) : (s :: h).reverse.getD h.length 0 = s := by
  rw [List.reverse_cons, List.getD_eq_getElem?_getD, List.getElem?_append_right (by rw [List.length_reverse]; exact Nat.le_refl _), List.length_reverse, Nat.sub_self]
  rfl
theorem low_at {s k : Nat} {h : List Nat} (hk : k < h.length) : (s :: h).reverse.getD k 0 = h.reverse.getD k 0 := by
  rw [List.reverse_cons, List.getD_eq_getElem?_getD, List.getElem?_append_left (by rw [List.length_reverse]; exact hk), List.getD_eq_getElem?_getD]
/-- all that is held is a sign -/
def allS (h : List Nat) : Prop := ∀ s, s ∈ h → s < 20
theorem allS_t {s : Nat} {h : List Nat} (g : allS (s :: h)) : allS h := fun t ht => g t (List.mem_cons_of_mem s ht)
theorem allS_c {s : Nat} {h : List Nat} (hs : s < 20) (g : allS h) : allS (s :: h) := fun t ht => by
  rcases List.mem_cons.mp ht with e | e
  · rw [e]; exact hs
  · exact g t e
theorem isO_P {s l : Nat} (hl : 1 ≤ l) (h : ¬ rkS s < l) : isO s = isP s := by
  unfold isO isP
  by_cases h0 : s = 0
  · subst h0
    exact absurd (show rkS 0 < l from hl) h
  · by_cases h1 : s = 13 ∨ s = 19
    · rw [if_pos h1, if_pos (Or.inr h1)]
    · rw [if_neg h1, if_neg (fun z => z.elim h0 h1)]
theorem uw_facts {l : Nat} (hl : 1 ≤ l) : ∀ (h : List Nat) (x : Nat), x = cO h → allS h → uwX l h x = cO (uwH l h) ∧ allS (uwH l h) ∧ (uwE l h).length + (uwH l h).length = h.length ∧ uwX l h x ≤ x
  | [], x, hx, _ => ⟨hx, (fun s hs => absurd hs List.not_mem_nil), rfl, Nat.le_refl _⟩
  | s :: h, x, hx, ha => by
    by_cases q : rkS s < l
    · have e1 : uwX l (s :: h) x = x := if_pos q
      have e2 : uwH l (s :: h) = s :: h := if_pos q
      have e3 : uwE l (s :: h) = [] := if_pos q
      rw [e1, e2, e3]
      exact ⟨hx, ha, Nat.zero_add _, Nat.le_refl _⟩
    · have e1 : uwX l (s :: h) x = uwX l h (x - isO s) := if_neg q
      have e2 : uwH l (s :: h) = uwH l h := if_neg q
      have e3 : uwE l (s :: h) = s :: uwE l h := if_neg q
      have ho := isO_P hl q
      have hx' : x - isO s = cO h := by
        rw [hx, ho]
        show isP s + cO h - isP s = cO h
        omega
      obtain ⟨a1, a2, a3, a4⟩ := uw_facts hl h (x - isO s) hx' (allS_t ha)
      rw [e1, e2, e3]
      refine ⟨a1, a2, ?_, by omega⟩
      rw [List.length_cons, List.length_cons]
      omega
theorem unw_r {N i l : Nat} (hi : i < 6) (hl : 1 ≤ l) (hl7 : l ≤ 7) : ∀ (h : List Nat) (fu x : Nat) (o : List Nat) (R : Mem), h.length < fu → x = cO h → x ≤ 100 → allS h → o.length + h.length ≤ 199 → HS i R h x o →
    ∃ R', b_X6_unwinds_0 N (nI l) fu R = some R' ∧ Ku i R R' ∧ HS i R' (uwH l h) (uwX l h x) (o ++ uwE l h)
  | [], fu, x, o, R, hf, hx, _, ha, hoh, hS => by
    obtain ⟨fu, rfl⟩ : ∃ z, fu = z + 1 := ⟨fu - 1, by omega⟩
    rw [b_X6_unwinds_0, hS.2.1, if_pos (show nI ([] : List Nat).length ≤ 0 by decide)]
    refine ⟨R, rfl, Ku.rf i R, ?_⟩
    show HS i R [] x (o ++ [])
    rw [List.append_nil]
    exact hS
  | s :: h, fu, x, o, R, hf, hx, hx100, ha, hoh, hS => by
    obtain ⟨fu, rfl⟩ : ∃ z, fu = z + 1 := ⟨fu - 1, by omega⟩
    have hs20 : s < 20 := ha s (List.mem_cons_self ..)
    rw [List.length_cons] at hf hoh
    obtain ⟨h1, h2, h3, h4, h5, h6⟩ := id hS
    rw [List.length_cons] at h2 h3
    have htop : AI R 116 h.length = nI s := by rw [h3 _ (by omega), top_at]
    have hrk := rkS_le s
    rw [b_X6_unwinds_0, h2, if_neg (nI_nle (by omega) (by omega)), nI_pred, gdn (n := len 116) (show h.length < 200 by omega) (by decide), nI_clamp (by omega), htop, rank_r hs20, bind_some_, itLt (by omega) (by omega)]
    by_cases q : rkS s < l
    · have e1 : uwX l (s :: h) x = x := if_pos q
      have e2 : uwH l (s :: h) = s :: h := if_pos q
      have e3 : uwE l (s :: h) = [] := if_pos q
      rw [if_pos q, e1, e2, e3, List.append_nil]
      exact ⟨R, rfl, Ku.rf i R, hS⟩
    · have e1 : uwX l (s :: h) x = uwX l h (x - isO s) := if_neg q
      have e2 : uwH l (s :: h) = uwH l h := if_neg q
      have e3 : uwE l (s :: h) = s :: uwE l h := if_neg q
      have ho := isO_P hl q
      have hx' : x - isO s = cO h := by
        rw [hx, ho]
        show isP s + cO h - isP s = cO h
        omega
      have hxo : isO s ≤ x := by
        rw [hx, ho]
        show isP s ≤ isP s + cO h
        omega
      rw [if_neg q, e1, e2, e3]
      unfold b_X6_unwinds_35
      have f28 : FI (sFI R 100 28 (nI h.length)) 100 28 = nI h.length := FI_s
      have f29 : FI (sFI R 100 28 (nI h.length)) 100 29 = nI x := (FI_n (by decide)).trans h4
      rw [f28, f29, gdn (n := len 116) (show h.length < 200 by omega) (by decide), nI_clamp (by omega), show AI (sFI R 100 28 (nI h.length)) 116 h.length = nI s from htop]
      have e67 : (if nI s = (13 : Int32) then b_X6_unwinds_62 N (nI l) (b_X6_unwinds_0 N (nI l) fu) (nI s) (nI x) (sFI R 100 28 (nI h.length)) else (if nI s = (19 : Int32) then b_X6_unwinds_62 N (nI l) (b_X6_unwinds_0 N (nI l) fu) (nI s) (nI x) (sFI R 100 28 (nI h.length)) else b_X6_unwinds_67 N (nI l) (b_X6_unwinds_0 N (nI l) fu) (nI s) (nI x) (0 : Int32) (sFI R 100 28 (nI h.length)))) = b_X6_unwinds_71 N (nI l) (b_X6_unwinds_0 N (nI l) fu) (nI s) (sFI (sFI R 100 28 (nI h.length)) 100 29 (nI (x - isO s))) := by
        unfold b_X6_unwinds_62 b_X6_unwinds_67
        unfold isO at hxo ⊢
        by_cases h13 : s = 13
        · subst h13
          rw [if_pos (show nI 13 = (13 : Int32) from rfl), if_pos (Or.inl rfl), lk_1, pk_sub (by rw [if_pos (Or.inl rfl)] at hxo; exact hxo)]
        · rw [if_neg (show ¬ nI s = (13 : Int32) from neL (n := 13) (by omega) (by decide) h13)]
          by_cases h19 : s = 19
          · subst h19
            rw [if_pos (show nI 19 = (19 : Int32) from rfl), if_pos (Or.inr rfl), lk_1, pk_sub (by rw [if_pos (Or.inr rfl)] at hxo; exact hxo)]
          · rw [if_neg (show ¬ nI s = (19 : Int32) from neL (n := 19) (by omega) (by decide) h19), if_neg (fun z => z.elim h13 h19), Int32.sub_zero, Nat.sub_zero]
      rw [e67]
      unfold b_X6_unwinds_71
      have hS1 : HS i (sFI (sFI R 100 28 (nI h.length)) 100 29 (nI (x - isO s))) h (x - isO s) o := ⟨(FI_n (by decide)).trans ((FI_n (by decide)).trans h1), (FI_n (by decide)).trans FI_s, fun k hk => by
        show AI R 116 k = _
        rw [h3 k (by omega), low_at hk], FI_s, (FI_n (by decide)).trans ((FI_n (by decide)).trans h5), h6⟩
      obtain ⟨R1, a1, a2, a3⟩ := puts_r (c := s) hi hS1 (by omega)
      rw [a1, bind_some_]
      obtain ⟨R2, b1, b2, b3⟩ := unw_r hi hl hl7 h fu (x - isO s) (o ++ [s]) R1 (by omega) hx' (by omega) (allS_t ha) (by rw [List.length_append]; show o.length + 1 + _ ≤ _; omega) a3
      refine ⟨R2, b1, (((Ku.fi i R _ (by omega)).tr (Ku.fi i _ _ (by omega))).tr a2).tr b2, ?_⟩
      rw [List.append_assoc] at b3
      exact b3
theorem hold_r {i s : Nat} {R : Mem} {h : List Nat} {x : Nat} {o : List Nat} (hh : h.length < 200) (hS : HS i R h x o) : ∃ R', f_X6_holds (nI s) R = some R' ∧ Ku i R R' ∧ HS i R' (s :: h) x o := by
  obtain ⟨h1, h2, h3, h4, h5, h6⟩ := hS
  unfold f_X6_holds b_X6_holds_0 b_X6_holds_10
  rw [h2, gdn (n := len 116) (show h.length < 200 by omega) (by decide), nI_clamp (by omega), FI_sAI, h2, nI_1]
  refine ⟨_, rfl, (Ku.hold i R _ _).tr (Ku.fi i _ _ (by omega)), (FI_n (by decide)).trans h1, FI_s, fun k hk => ?_, (FI_n (by decide)).trans h4, (FI_n (by decide)).trans h5, fun k hk => ?_⟩
  · rw [List.length_cons] at hk
    show AI (sAI R 116 h.length (nI s)) 116 k = _
    by_cases e : k = h.length
    · rw [e, AI_s, top_at]
    · rw [AI_n e, low_at (by omega)]
      exact h3 k (by omega)
  · show AI (sAI R 116 h.length (nI s)) 107 (200 * i + k) = _
    rw [AI_na (by decide)]
    exact h6 k hk
theorem opens_r {i s : Nat} {R : Mem} {h : List Nat} {x : Nat} {o : List Nat} (hh : h.length < 200) (hx : x ≤ 5) (hS : HS i R h x o) : ∃ R', f_X6_opensOne (nI s) R = some (decide (x ≠ 5), R') ∧ Ku i R R' ∧ (x ≠ 5 → HS i R' (s :: h) (x + 1) o) := by
  unfold f_X6_opensOne b_X6_opensOne_0 b_X6_opensOne_20
  rw [hS.2.2.2.1, show (5 : Int32) = nI 5 from rfl, itEq (by omega) (by decide)]
  by_cases q : x = 5
  · rw [if_pos q, decide_eq_false (fun z => z q)]
    exact ⟨R, rfl, Ku.rf i R, fun z => absurd q z⟩
  · rw [if_neg q, decide_eq_true q, nI_1]
    have hS1 : HS i (sFI R 100 29 (nI (x + 1))) h (x + 1) o := ⟨(FI_n (by decide)).trans hS.1, (FI_n (by decide)).trans hS.2.1, hS.2.2.1, FI_s, (FI_n (by decide)).trans hS.2.2.2.2.1, hS.2.2.2.2.2⟩
    obtain ⟨R1, a1, a2, a3⟩ := hold_r (s := s) hh hS1
    rw [a1, bind_some_]
    exact ⟨R1, rfl, (Ku.fi i R _ (by omega)).tr a2, fun _ => a3⟩
