/-! L2: the reference's reader of a part is what the machine says -/
theorem te_tab : ∀ t, okT t → ((teI t = 1 ↔ t = 300) ∧ (teI t = 2 ↔ t = 301) ∧ (teI t = 6 ↔ t = 205) ∧ (teI t = 45 ↔ t = 45) ∧ (teI t = 40 ↔ t = 40)) ∧ (teI t = 59 ↔ t = 59) ∧ (teI t = 41 ↔ t = 41) ∧ (teI t = 3 ↔ (t = 200 ∨ t = 201 ∨ t = 202)) ∧ (teI t = 0 ↔ t = 302) := by
  intro t h
  unfold okT at h
  rcases h with rfl | rfl | rfl | rfl | rfl | rfl | rfl | rfl | rfl | rfl | rfl | rfl | rfl | rfl | rfl | rfl | rfl | rfl <;> decide
theorem tkA_ok (b : Nat → Nat) (n a : Nat) : okT (tkA b n a) := tkS_ok b n _
def soI (t : Nat) : Int32 := match sgO t with
  | none => -1
  | some s => nI s
theorem sign_tab : ∀ t, okT t → (if teI t = (4 : Int32) then some (11 : Int32) else (if teI t = (5 : Int32) then some (12 : Int32) else (if teI t = (60 : Int32) then some (14 : Int32) else (if teI t = (61 : Int32) then some (15 : Int32) else (if teI t = (43 : Int32) then some (16 : Int32) else (if teI t = (45 : Int32) then some (17 : Int32) else (if teI t = (42 : Int32) then some (18 : Int32) else some (-1 : Int32)))))))) = some (soI t) := by
  intro t h
  unfold okT at h
  rcases h with rfl | rfl | rfl | rfl | rfl | rfl | rfl | rfl | rfl | rfl | rfl | rfl | rfl | rfl | rfl | rfl | rfl | rfl <;> decide
theorem signOf_r {R : Mem} {t : Nat} (ht : okT t) (h : FI R 100 24 = teI t) : f_X6_signOf R = some (soI t) := by
  unfold f_X6_signOf b_X6_signOf_0
  rw [h]
  exact sign_tab t ht
theorem sgO_s {t s : Nat} (h : sgO t = some s) : (s = 11 ∨ s = 12 ∨ s = 14 ∨ s = 15 ∨ s = 16 ∨ s = 17 ∨ s = 18) ∧ t ≠ 302 := by
  unfold sgO at h
  (repeat' split at h) <;> (try (cases h; omega))
  all_goals cases h
theorem uwH_hd {l : Nat} : ∀ {h : List Nat} {s : Nat} {h' : List Nat}, uwH l h = s :: h' → rkS s < l
  | [], s, h', e => by cases e
  | u :: h, s, h', e => by
    by_cases q : rkS u < l
    · have e2 : uwH l (u :: h) = u :: h := if_pos q
      rw [e2] at e
      cases e
      exact q
    · have e2 : uwH l (u :: h) = uwH l h := if_neg q
      rw [e2] at e
      exact uwH_hd e
theorem rkS_0 {s : Nat} (h : rkS s < 1) : s = 0 := by
  unfold rkS at h
  (repeat' split at h) <;> omega
theorem lvS_1 {s : Nat} (h : s = 11 ∨ s = 12 ∨ s = 14 ∨ s = 15 ∨ s = 16 ∨ s = 17 ∨ s = 18) : 1 ≤ lvS s ∧ lvS s ≤ 7 ∧ s < 20 ∧ isP s = 0 := by
  rcases h with rfl | rfl | rfl | rfl | rfl | rfl | rfl <;> decide
theorem btw_lv {s : Nat} (h : s = 11 ∨ s = 12 ∨ s = 14 ∨ s = 15 ∨ s = 16 ∨ s = 17 ∨ s = 18) (N : Nat) (R : Mem) : f_X6_between N (nI s) R = b_X6_between_17 N (nI s) (nI (lvS s)) R := by
  unfold f_X6_between b_X6_between_0
  rw [rank_r (by omega), bind_some_, show (4 : Int32) = nI 4 from rfl, itEq (by have := rkS_le s; omega) (by decide)]
  unfold lvS
  by_cases q : rkS s = 4
  · rw [if_pos q, if_pos q]
    rfl
  · rw [if_neg q, if_neg q, bind_some_]
theorem btw_r {N i s : Nat} {R : Mem} {h : List Nat} {x : Nat} {o : List Nat} (hN : 200 < N) (hi : i < 6) (hs : s = 11 ∨ s = 12 ∨ s = 14 ∨ s = 15 ∨ s = 16 ∨ s = 17 ∨ s = 18) (hx : x = cO h) (hx5 : x ≤ 5) (ha : allS h) (hoh : o.length + h.length ≤ 198) (hS : HS i R h x o) :
    ∃ R', f_X6_between N (nI s) R = some (decide (¬ (rkS s = 4 ∧ hdR (uwH (lvS s) h) = 4)), R') ∧ Ku i R R' ∧ (¬ (rkS s = 4 ∧ hdR (uwH (lvS s) h) = 4) → HS i R' (s :: uwH (lvS s) h) (uwX (lvS s) h x) (o ++ uwE (lvS s) h)) := by
  obtain ⟨l1, l7, s20, -⟩ := lvS_1 hs
  obtain ⟨R1, a1, a2, a3⟩ := unw_r (N := N) hi l1 l7 h N x o R (by omega) hx (by omega) ha (by omega) hS
  obtain ⟨u1, u2, u3, u4⟩ := uw_facts l1 h x hx ha
  rw [btw_lv hs]
  unfold b_X6_between_17
  rw [show f_X6_unwinds N (nI (lvS s)) R = some R1 from a1, bind_some_, rank_r s20, bind_some_, show (4 : Int32) = nI 4 from rfl, itEq (by have := rkS_le s; omega) (by decide)]
  have go : ∃ R', b_X6_between_55 N (nI s) R1 = some (true, R') ∧ Ku i R R' ∧ HS i R' (s :: uwH (lvS s) h) (uwX (lvS s) h x) (o ++ uwE (lvS s) h) := by
    unfold b_X6_between_55
    obtain ⟨R2, b1, b2, b3⟩ := hold_r (s := s) (by omega) a3
    rw [b1, bind_some_]
    exact ⟨R2, rfl, a2.tr b2, b3⟩
  by_cases q : rkS s = 4
  · rw [if_pos q, a3.2.1]
    generalize uwH (lvS s) h = g at u1 u2 u3 a3 go ⊢
    cases g with
    | nil =>
      rw [if_pos (show nI ([] : List Nat).length ≤ 0 by decide)]
      obtain ⟨R2, b1, b2, b3⟩ := go
      rw [b1, decide_eq_true (show ¬ (rkS s = 4 ∧ hdR [] = 4) from fun z => absurd z.2 (by decide))]
      exact ⟨R2, rfl, b2, fun _ => b3⟩
    | cons v g =>
      rw [List.length_cons] at u3
      have htop : AI R1 116 g.length = nI v := by rw [a3.2.2.1 _ (by rw [List.length_cons]; omega), top_at]
      rw [List.length_cons, if_neg (nI_nle (by omega) (by omega)), nI_pred, gdn (n := len 116) (show g.length < 200 by omega) (by decide), nI_clamp (by omega), htop, rank_r (u2 v (List.mem_cons_self ..)), bind_some_, itEq (by have := rkS_le v; omega) (by decide)]
      by_cases q2 : rkS v = 4
      · rw [if_pos q2, decide_eq_false (fun z => z ⟨q, q2⟩)]
        exact ⟨R1, rfl, a2, fun z => absurd ⟨q, q2⟩ z⟩
      · rw [if_neg q2]
        obtain ⟨R2, b1, b2, b3⟩ := go
        rw [b1, decide_eq_true (show ¬ (rkS s = 4 ∧ hdR (v :: g) = 4) from fun z => q2 z.2)]
        exact ⟨R2, rfl, b2, fun _ => b3⟩
  · rw [if_neg q]
    obtain ⟨R2, b1, b2, b3⟩ := go
    rw [b1, decide_eq_true (show ¬ (rkS s = 4 ∧ hdR (uwH (lvS s) h) = 4) from fun z => q z.1)]
    exact ⟨R2, rfl, b2, fun _ => b3⟩
/-- only what the reader of a part has is another one -/
def Kv (i : Nat) (R R' : Mem) : Prop := (∀ k, (k < 22 ∨ (25 < k ∧ k < 28) ∨ 30 < k) → FI R' 100 k = FI R 100 k) ∧ (∀ k, FJ R' 100 k = FJ R 100 k) ∧ (∀ b, b ≠ 107 → b ≠ 116 → AI R' b = AI R b) ∧ ∀ q, q < 200 * i ∨ 200 * i + 200 ≤ q → AI R' 107 q = AI R 107 q
theorem Kv.rf (i : Nat) (R : Mem) : Kv i R R := ⟨fun _ _ => rfl, fun _ => rfl, fun _ _ _ => rfl, fun _ _ => rfl⟩
theorem Kv.tr {i : Nat} {R R1 R2 : Mem} (h : Kv i R R1) (g : Kv i R1 R2) : Kv i R R2 := ⟨fun k hk => (g.1 k hk).trans (h.1 k hk), fun k => (g.2.1 k).trans (h.2.1 k), fun b h1 h2 => (g.2.2.1 b h1 h2).trans (h.2.2.1 b h1 h2), fun q hq => (g.2.2.2 q hq).trans (h.2.2.2 q hq)⟩
theorem Kv.ku {i : Nat} {R R' : Mem} (h : Ku i R R') : Kv i R R' := ⟨fun k hk => h.1 k (by omega), h.2.1, h.2.2.1, h.2.2.2⟩
theorem Kv.lr {i : Nat} {R R' : Mem} (h : Lr R R') : Kv i R R' := ⟨fun k hk => h.1 k (by omega), fun k => by rw [h.2.1], fun b _ _ => by rw [h.2.2], fun q _ => by rw [h.2.2]⟩
theorem HS.lr {i : Nat} {R R' : Mem} {h : List Nat} {x : Nat} {o : List Nat} (hS : HS i R h x o) (g : Lr R R') : HS i R' h x o := ⟨(g.1 12 (by omega)).trans hS.1, (g.1 28 (by omega)).trans hS.2.1, fun k hk => by rw [g.2.2]; exact hS.2.2.1 k hk, (g.1 29 (by omega)).trans hS.2.2.2.1, (g.1 30 (by omega)).trans hS.2.2.2.2.1, fun k hk => by rw [g.2.2]; exact hS.2.2.2.2.2 k hk⟩
/-- what the reader of a part leaves -/
def EP (b : Nat → Nat) (n i : Nat) (R : Mem) (e : Option (Bool × Mem)) (r : Bool × Nat × List Nat) : Prop := ∃ R', e = some (r.1, R') ∧ Kv i R R' ∧ r.2.1 ≤ n ∧ FI R' 100 23 = nI (stA b n r.2.1) ∧ (r.1 = true → FI R' 100 22 = nI (nxA b n r.2.1) ∧ FI R' 100 30 = nI r.2.2.length ∧ (∀ k, k < r.2.2.length → AI R' 107 (200 * i + k) = nI (r.2.2.getD k 0)) ∧ r.2.2.length ≤ r.2.1 ∧ tkA b n r.2.1 = 59)
theorem EP.pre {b : Nat → Nat} {n i : Nat} {R R1 : Mem} {e : Option (Bool × Mem)} {r : Bool × Nat × List Nat} (g : Kv i R R1) (h : EP b n i R1 e r) : EP b n i R e r := by
  obtain ⟨R', a1, a2, a3⟩ := h
  exact ⟨R', a1, g.tr a2, a3⟩
theorem EP.no {b : Nat → Nat} {n i a : Nat} {R R1 R2 : Mem} {o : List Nat} (g : Kv i R R1) (k : Ku i R1 R2) (ha : a ≤ n) (h : FI R1 100 23 = nI (stA b n a)) : EP b n i R (some (false, R2)) (false, a, o) := ⟨R2, rfl, g.tr (Kv.ku k), ha, (k.1 23 (by omega)).trans h, fun z => absurd z Bool.false_ne_true⟩
theorem eRead_r {N n i : Nat} {b : Nat → Nat} (hN : 200 < N) (hn : n ≤ 160) (hi : i < 6) (hb : ∀ k, k < n → b k < 256) : ∀ (f fu a : Nat) (w m : Bool) (h : List Nat) (x : Nat) (o : List Nat) (R : Mem), n - a < f → f ≤ fu → a ≤ n → x = cO h → x ≤ 5 → allS h → o.length + h.length ≤ a → HS i R h x o → Tr R b n → FI R 100 22 = nI a →
    EP b n i R (b_X6_eRead_14 N fu (b2i w) (b2i m) R) (kR (tkA b n) (nxA b n) (vlA b n) f w m a h x o) := by
  intro f
  induction f with
  | zero => intro fu a w m h x o R hf; omega
  | succ f ih =>
    intro fu a w m h x o R hf hfu han hx hx5 hall hlen hS hT h22
    obtain ⟨fu, rfl⟩ : ∃ z, fu = z + 1 := ⟨fu - 1, by omega⟩
    obtain ⟨g1, g2, g3⟩ := nxA_bd (b := b) han
    obtain ⟨R1, a1, a2, a3, a4, a5, a6, -⟩ := next_r (N := N) (n := n) (b := b) (by omega) hn hb (n - a) N a R (by omega) (by omega) hT h22
    have hS1 := hS.lr a2
    have hT1 := hT.lr a2
    have kv : Kv i R R1 := Kv.lr a2
    have ok := tkA_ok b n a
    have step : ∀ (w' m' : Bool) (h' : List Nat) (x' : Nat) (o' : List Nat) (R2 : Mem), tkA b n a ≠ 302 → Ku i R1 R2 → HS i R2 h' x' o' → x' = cO h' → x' ≤ 5 → allS h' → o'.length + h'.length ≤ a + 1 → EP b n i R (b_X6_eRead_14 N fu (b2i w') (b2i m') R2) (kR (tkA b n) (nxA b n) (vlA b n) f w' m' (nxA b n a) h' x' o') := by
      intro w' m' h' x' o' R2 ht ku hS2 hx' hx5' ha' hl'
      have g4 := g3 ht
      exact EP.pre (kv.tr (Kv.ku ku)) (ih fu (nxA b n a) w' m' h' x' o' R2 (by omega) (by omega) g2 hx' hx5' ha' (by omega) hS2 (hT1.ku ku) ((ku.1 22 (by omega)).trans a3))
    have te := te_tab _ ok
    rw [b_X6_eRead_14, show f_X6_next N R = some R1 from a1, bind_some_]
    cases w with
    | true =>
      have opn : ∀ (s : Nat) (m' : Bool), s < 20 → isP s = 1 → tkA b n a ≠ 302 → EP b n i R (bd2 (f_X6_opensOne (nI s) R1) fun r M => (if r = true then b_X6_eRead_14 N fu (b2i true) (b2i m') M else some (false, M))) (if x = 5 then (false, a, o) else kR (tkA b n) (nxA b n) (vlA b n) f true m' (nxA b n a) (s :: h) (x + 1) o) := by
        intro s m' hs hp ht
        obtain ⟨R2, c1, c2, c3⟩ := opens_r (s := s) (by omega) hx5 hS1
        rw [c1, bd2_s]
        by_cases q : x = 5
        · rw [if_pos q, decide_eq_false (fun z => z q), if_neg Bool.false_ne_true]
          exact EP.no kv c2 han a4
        · rw [if_neg q, decide_eq_true q, if_pos rfl]
          refine step true m' (s :: h) (x + 1) o R2 ht c2 (c3 q) ?_ (by omega) (allS_c hs hall) ?_
          · show x + 1 = isP s + cO h
            omega
          · rw [List.length_cons]
            omega
      have put : ∀ c : Nat, tkA b n a ≠ 302 → EP b n i R (b_X6_eRead_61 N (b_X6_eRead_14 N fu) (b2i m) (nI c) R1) (kR (tkA b n) (nxA b n) (vlA b n) f false m (nxA b n a) (uwH 7 h) (uwX 7 h x) (o ++ c :: uwE 7 h)) := by
        intro c ht
        unfold b_X6_eRead_61
        obtain ⟨R2, c1, c2, c3⟩ := puts_r (c := c) hi hS1 (by omega)
        have e2 : (o ++ [c]).length = o.length + 1 := by rw [List.length_append]; rfl
        obtain ⟨R3, d1, d2, d3⟩ := unw_r (N := N) (l := 7) hi (by decide) (by decide) h N x (o ++ [c]) R2 (by omega) hx (by omega) hall (by omega) c3
        obtain ⟨u1, u2, u3, u4⟩ := uw_facts (l := 7) (by decide) h x hx hall
        rw [c1, bind_some_, show f_X6_unwinds N (7 : Int32) R2 = some R3 from d1, bind_some_]
        rw [List.append_assoc] at d3
        refine step false m _ _ (o ++ c :: uwE 7 h) R3 ht (c2.tr d2) d3 u1 (by omega) u2 ?_
        rw [List.length_append, List.length_cons]
        omega
      rw [if_neg (show ¬ b2i true = 0 by decide), a5]
      rw [show kR (tkA b n) (nxA b n) (vlA b n) (f + 1) true m a h x o = (if tkA b n a = 300 then kR (tkA b n) (nxA b n) (vlA b n) f false m (nxA b n a) (uwH 7 h) (uwX 7 h x) (o ++ (100000 + vlA b n a) :: uwE 7 h) else if tkA b n a = 301 then kR (tkA b n) (nxA b n) (vlA b n) f false m (nxA b n a) (uwH 7 h) (uwX 7 h x) (o ++ vlA b n a :: uwE 7 h) else if tkA b n a = 205 ∧ m = true then (if x = 5 then (false, a, o) else kR (tkA b n) (nxA b n) (vlA b n) f true m (nxA b n a) (13 :: h) (x + 1) o) else if tkA b n a = 45 then (if x = 5 then (false, a, o) else kR (tkA b n) (nxA b n) (vlA b n) f true false (nxA b n a) (19 :: h) (x + 1) o) else if tkA b n a = 40 then (if x = 5 then (false, a, o) else kR (tkA b n) (nxA b n) (vlA b n) f true true (nxA b n a) (0 :: h) (x + 1) o) else (false, a, o)) from rfl]
      by_cases t0 : tkA b n a = 300
      · rw [if_pos (te.1.1.mpr t0), if_pos t0]
        unfold b_X6_eRead_38
        rw [a5, if_pos (te.1.1.mpr t0), a6 (Or.inl t0), show (100000 : Int32) = nI 100000 from rfl, nI_add]
        exact put _ (by omega)
      rw [if_neg (fun z => t0 (te.1.1.mp z)), if_neg t0]
      by_cases t1 : tkA b n a = 301
      · rw [if_pos (te.1.2.1.mpr t1), if_pos t1]
        unfold b_X6_eRead_38
        rw [a5, if_neg (fun z => t0 (te.1.1.mp z)), a6 (Or.inr t1)]
        exact put _ (by omega)
      rw [if_neg (fun z => t1 (te.1.2.1.mp z)), if_neg t1]
      have r99 : EP b n i R (b_X6_eRead_99 N (b_X6_eRead_14 N fu) (b2i true) R1) (if tkA b n a = 45 then (if x = 5 then (false, a, o) else kR (tkA b n) (nxA b n) (vlA b n) f true false (nxA b n a) (19 :: h) (x + 1) o) else if tkA b n a = 40 then (if x = 5 then (false, a, o) else kR (tkA b n) (nxA b n) (vlA b n) f true true (nxA b n a) (0 :: h) (x + 1) o) else (false, a, o)) := by
        unfold b_X6_eRead_99
        rw [a5]
        by_cases t2 : tkA b n a = 45
        · rw [if_pos (te.1.2.2.2.1.mpr t2), if_pos t2]
          exact opn 19 false (by decide) rfl (by omega)
        rw [if_neg (fun z => t2 (te.1.2.2.2.1.mp z)), if_neg t2]
        by_cases t3 : tkA b n a = 40
        · rw [if_pos (te.1.2.2.2.2.mpr t3), if_pos t3]
          exact opn 0 true (by decide) rfl (by omega)
        rw [if_neg (fun z => t3 (te.1.2.2.2.2.mp z)), if_neg t3]
        exact EP.no kv (Ku.rf i R1) han a4
      by_cases t4 : tkA b n a = 205
      · rw [if_pos (te.1.2.2.1.mpr t4)]
        cases m with
        | false =>
          rw [if_pos (show b2i false = 0 from rfl), if_neg (show ¬ (tkA b n a = 205 ∧ false = true) from fun z => Bool.false_ne_true z.2)]
          exact r99
        | true =>
          rw [if_neg (show ¬ b2i true = 0 by decide), if_pos (show tkA b n a = 205 ∧ true = true from ⟨t4, rfl⟩)]
          exact opn 13 true (by decide) rfl (by omega)
      · rw [if_neg (fun z => t4 (te.1.2.2.1.mp z)), if_neg (show ¬ (tkA b n a = 205 ∧ m = true) from fun z => t4 z.1)]
        exact r99
    | false =>
      rw [if_pos (show b2i false = 0 from rfl), a5]
      rw [show kR (tkA b n) (nxA b n) (vlA b n) (f + 1) false m a h x o = (if tkA b n a = 59 then (decide (uwH 1 h = []), a, o ++ uwE 1 h)
    else if tkA b n a = 41 then (match uwH 1 h with
      | [] => (false, a, o ++ uwE 1 h)
      | _ :: h' => kR (tkA b n) (nxA b n) (vlA b n) f false m (nxA b n a) (uwH 7 h') (uwX 7 h' (uwX 1 h x - 1)) (o ++ uwE 1 h ++ uwE 7 h'))
    else match sgO (tkA b n a) with
      | none => (false, a, o)
      | some s => if rkS s = 4 ∧ hdR (uwH (lvS s) h) = 4 then (false, a, o ++ uwE (lvS s) h) else kR (tkA b n) (nxA b n) (vlA b n) f true (decide (s ≤ 12)) (nxA b n a) (s :: uwH (lvS s) h) (uwX (lvS s) h x) (o ++ uwE (lvS s) h)) from rfl]
      obtain ⟨R2, c1, c2, c3⟩ := unw_r (N := N) (l := 1) hi (by decide) (by decide) h N x o R1 (by omega) hx (by omega) hall (by omega) hS1
      obtain ⟨u1, u2, u3, u4⟩ := uw_facts (l := 1) (by decide) h x hx hall
      have e28 : FI R2 100 28 = nI (uwH 1 h).length := c3.2.1
      by_cases t5 : tkA b n a = 59
      · rw [if_pos (te.2.1.mpr t5), if_pos t5, show f_X6_unwinds N (1 : Int32) R1 = some R2 from c1, bind_some_, e28]
        by_cases q : uwH 1 h = []
        · rw [q, if_pos (show nI ([] : List Nat).length = 0 from rfl), decide_eq_true (show ([] : List Nat) = [] from rfl)]
          refine ⟨R2, rfl, kv.tr (Kv.ku c2), han, (c2.1 23 (by omega)).trans a4, fun _ => ⟨(c2.1 22 (by omega)).trans a3, c3.2.2.2.2.1, c3.2.2.2.2.2, ?_, t5⟩⟩
          rw [List.length_append]
          show o.length + _ ≤ a
          omega
        · have hp : 0 < (uwH 1 h).length := List.length_pos_iff.mpr q
          rw [if_neg (show ¬ nI (uwH 1 h).length = 0 from neL (n := 0) (by omega) (by decide) (by omega)), decide_eq_false q]
          exact EP.no kv c2 han a4
      rw [if_neg (fun z => t5 (te.2.1.mp z)), if_neg t5]
      by_cases t6 : tkA b n a = 41
      · rw [if_pos (te.2.2.1.mpr t6), if_pos t6, show f_X6_unwinds N (1 : Int32) R1 = some R2 from c1, bind_some_, e28]
        cases hg : uwH 1 h with
        | nil =>
          rw [if_pos (show nI ([] : List Nat).length = 0 from rfl)]
          exact EP.no kv c2 han a4
        | cons s g =>
          have s0 := rkS_0 (uwH_hd hg)
          subst s0
          rw [hg] at c3 u1 u2 u3
          rw [List.length_cons] at u3
          have u1' : uwX 1 h x = 1 + cO g := u1
          rw [List.length_cons, if_neg (show ¬ nI (g.length + 1) = 0 from neL (n := 0) (by omega) (by decide) (by omega)), nI_pred]
          unfold b_X6_eRead_210 b_X6_eRead_220
          obtain ⟨p1, p2, p3, p4, p5, p6⟩ := c3
          have f29 : FI (sFI R2 100 28 (nI g.length)) 100 29 = nI (uwX 1 h x) := (FI_n (by decide)).trans p4
          rw [f29, lk_1, pk_sub (by omega)]
          have hS3 : HS i (sFI (sFI R2 100 28 (nI g.length)) 100 29 (nI (uwX 1 h x - 1))) g (uwX 1 h x - 1) (o ++ uwE 1 h) := ⟨(FI_n (by decide)).trans ((FI_n (by decide)).trans p1), (FI_n (by decide)).trans FI_s, fun k hk => by
            show AI R2 116 k = _
            rw [p3 k (by rw [List.length_cons]; omega), low_at hk], FI_s, (FI_n (by decide)).trans ((FI_n (by decide)).trans p5), p6⟩
          have ku3 : Ku i R1 (sFI (sFI R2 100 28 (nI g.length)) 100 29 (nI (uwX 1 h x - 1))) := (c2.tr (Ku.fi i _ _ (by omega))).tr (Ku.fi i _ _ (by omega))
          generalize sFI (sFI R2 100 28 (nI g.length)) 100 29 (nI (uwX 1 h x - 1)) = R3 at hS3 ku3 ⊢
          have e2 : (o ++ uwE 1 h).length = o.length + (uwE 1 h).length := List.length_append
          have cx : uwX 1 h x - 1 = cO g := by omega
          obtain ⟨R4, d1, d2, d3⟩ := unw_r (N := N) (l := 7) hi (by decide) (by decide) g N (uwX 1 h x - 1) (o ++ uwE 1 h) R3 (by omega) cx (by omega) (allS_t u2) (by omega) hS3
          obtain ⟨v1, v2, v3, v4⟩ := uw_facts (l := 7) (by decide) g (uwX 1 h x - 1) cx (allS_t u2)
          rw [show f_X6_unwinds N (7 : Int32) R3 = some R4 from d1, bind_some_]
          refine step false m _ _ _ R4 (by omega) (ku3.tr d2) d3 v1 (by omega) v2 ?_
          rw [List.length_append, e2]
          omega
      rw [if_neg (fun z => t6 (te.2.2.1.mp z)), if_neg t6, signOf_r ok a5, bind_some_]
      unfold soI
      cases hs : sgO (tkA b n a) with
      | none =>
        rw [if_pos rfl]
        exact EP.no kv (Ku.rf i R1) han a4
      | some s =>
        obtain ⟨s1, s2⟩ := sgO_s hs
        obtain ⟨l1, l7, s20, sp⟩ := lvS_1 s1
        obtain ⟨v1, v2, v3, v4⟩ := uw_facts l1 h x hx hall
        obtain ⟨R3, d1, d2, d3⟩ := btw_r (N := N) hN hi s1 hx hx5 hall (by omega) hS1
        dsimp only
        rw [if_neg (show ¬ nI s = (-1 : Int32) by rcases s1 with rfl | rfl | rfl | rfl | rfl | rfl | rfl <;> decide), d1, bd2_s]
        by_cases q : rkS s = 4 ∧ hdR (uwH (lvS s) h) = 4
        · rw [if_pos q, decide_eq_false (fun z => z q), if_neg Bool.false_ne_true]
          exact EP.no kv d2 han a4
        · rw [if_neg q, decide_eq_true q, if_pos rfl]
          have fin := step true (decide (s ≤ 12)) (s :: uwH (lvS s) h) (uwX (lvS s) h x) (o ++ uwE (lvS s) h) R3 s2 d2 (d3 q) (by show _ = isP s + cO _; omega) (by omega) (allS_c s20 v2) (by rw [List.length_append, List.length_cons]; omega)
          unfold b_X6_eRead_262
          by_cases q2 : s ≤ 12
          · rw [decide_eq_true q2] at fin ⊢
            rw [if_neg (show ¬ (12 : Int32) < nI s from nI_nlt (a := 12) (by omega) (by omega))]
            exact fin
          · rw [decide_eq_false q2] at fin ⊢
            rw [if_pos (show (12 : Int32) < nI s from nI_lt (a := 12) (by omega) (by omega))]
            exact fin
