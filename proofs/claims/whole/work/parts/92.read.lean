/-! L2: the class' reader of texts, as a function of the tokens -/
abbrev Rs : Type := Bool × Nat × List Op
def bindR (r : Rs) (k : Nat → Rs) : Rs := if r.1 = true then ((k r.2.1).1, (k r.2.1).2.1, r.2.2 ++ (k r.2.1).2.2) else (false, r.2.1, [])
def tailR (r : Rs) (o : Nat) : Rs := if r.1 = true then (true, r.2.1, r.2.2 ++ [(o, 0)]) else (false, r.2.1, [])
def oT (t : Nat) : Option Nat := if t = 42 then some 4 else none
def oS (t : Nat) : Option Nat := if t = 43 then some 5 else if t = 45 then some 6 else none
def oB (t : Nat) : Option Nat := if t = 204 then some 9 else none
def oE (t : Nat) : Option Nat := if t = 203 then some 10 else none
def dLoop (tk nx : Nat → Nat) (oo : Nat → Option Nat) (g : Nat → Rs) : Nat → Nat → Rs
  | 0, a => (true, a, [])
  | f + 1, a => match oo (tk a) with
    | none => (true, a, [])
    | some o => bindR (tailR (g (nx a)) o) (dLoop tk nx oo g f)
def dLvl (tk nx : Nat → Nat) (oo : Nat → Option Nat) (g : Nat → Rs) (a : Nat) : Rs := bindR (g a) (dLoop tk nx oo g 160)
def dOne (tk nx vl : Nat → Nat) (Rk : Nat → Nat → Nat → Rs) (x a : Nat) : Rs := if tk a = 300 then (true, nx a, [(0, vl a)]) else if tk a = 301 then (true, nx a, [(1, vl a)]) else if tk a = 45 then (if x < 5 then tailR (Rk 2 (x + 1) (nx a)) 2 else (false, a, [])) else if tk a = 40 then (if x < 5 then bindR (Rk 0 (x + 1) (nx a)) (fun p => if tk p = 41 then (true, nx p, []) else (false, p, [])) else (false, a, [])) else (false, a, [])
def dTerm (tk nx vl : Nat → Nat) (Rk : Nat → Nat → Nat → Rs) (x : Nat) : Nat → Rs := dLvl tk nx oT (dOne tk nx vl Rk x)
def dSum (tk nx vl : Nat → Nat) (Rk : Nat → Nat → Nat → Rs) (x : Nat) : Nat → Rs := dLvl tk nx oS (dTerm tk nx vl Rk x)
def dCmp (tk nx vl : Nat → Nat) (Rk : Nat → Nat → Nat → Rs) (x a : Nat) : Rs := bindR (dSum tk nx vl Rk x a) (fun p => if tk p = 60 then tailR (dSum tk nx vl Rk x (nx p)) 7 else if tk p = 61 then tailR (dSum tk nx vl Rk x (nx p)) 8 else (true, p, []))
def dNot (tk nx vl : Nat → Nat) (Rk : Nat → Nat → Nat → Rs) (x a : Nat) : Rs := if tk a = 205 then (if x < 5 then tailR (Rk 1 (x + 1) (nx a)) 3 else (false, a, [])) else dCmp tk nx vl Rk x a
def dBoth (tk nx vl : Nat → Nat) (Rk : Nat → Nat → Nat → Rs) (x : Nat) : Nat → Rs := dLvl tk nx oB (dNot tk nx vl Rk x)
def dEither (tk nx vl : Nat → Nat) (Rk : Nat → Nat → Nat → Rs) (x : Nat) : Nat → Rs := dLvl tk nx oE (dBoth tk nx vl Rk x)
def DR (tk nx vl : Nat → Nat) : Nat → Nat → Nat → Nat → Rs
  | 0, _, _, a => (false, a, [])
  | d + 1, w, x, a => if w = 0 then dEither tk nx vl (DR tk nx vl d) x a else if w = 1 then dNot tk nx vl (DR tk nx vl d) x a else dOne tk nx vl (DR tk nx vl d) x a
/-- the class' memory: the token at hand is that from a on, the text j has L -/
def CS (b : Nat → Nat) (n j : Nat) (M : Mem) (a : Nat) (L : List Op) : Prop := Tp M b n ∧ (FI M 72 2 = nI (nxA b n a) ∧ FI M 72 3 = nI (stA b n a) ∧ FI M 72 4 = nI (tkA b n a) ∧ ((tkA b n a = 300 ∨ tkA b n a = 301) → FI M 72 5 = nI (vlA b n a))) ∧ RF M = j ∧ FI M j 4 = nI L.length ∧ (∀ k, k < L.length → AI M (j + 6) k = nI (L.getD k (0, 0)).1 ∧ AI M (j + 12) k = nI (L.getD k (0, 0)).2) ∧ a ≤ n
def CF (b : Nat → Nat) (n : Nat) (M : Mem) (a : Nat) : Prop := FI M 72 3 = nI (stA b n a) ∧ a ≤ n
def Fr (j : Nat) (M M' : Mem) : Prop := Mx (fun c => c = 72 ∨ c = j ∨ c = j + 6 ∨ c = j + 12) M M'
theorem Fr.rf (j : Nat) (M : Mem) : Fr j M M := Mx.rf _ M
theorem Fr.tr {j : Nat} {M M1 M2 : Mem} (h : Fr j M M1) (g : Fr j M1 M2) : Fr j M M2 := Mx.tr h g
theorem Fr.lx {j : Nat} {M M' : Mem} (h : Lx M M') : Fr j M M' := fun a ha => ⟨fun k => h.2.1 a (fun q => ha (Or.inl q)) k, fun k => by rw [h.2.2.1], by rw [h.2.2.2.1]⟩
theorem tk_lt (b : Nat → Nat) (n a : Nat) : tkA b n a < 304 := by
  have := tkS_ok b n (stA b n a)
  unfold okT at this
  unfold tkA
  omega
theorem tk_if {α : Type} {b : Nat → Nat} {n a t : Nat} {x y : α} (ht : t < 2 ^ 31) : (if nI (tkA b n a) = nI t then x else y) = (if tkA b n a = t then x else y) := itEq (by have := tk_lt b n a; omega) ht
theorem adv_s {N n j a : Nat} {b : Nat → Nat} {M : Mem} {L : List Op} (hN : 160 < N) (hn : n ≤ 160) (hb : ∀ k, k < n → b k < 256) (hj : 46 ≤ j ∧ j < 52) (h : CS b n j M a L) (ht : tkA b n a ≠ 302) : ∃ M', f_X0_advance N M = some M' ∧ Fr j M M' ∧ CS b n j M' (nxA b n a) L ∧ a < nxA b n a := by
  obtain ⟨h1, ⟨h2, h3, h4, h5⟩, h6, h7, h8, h9⟩ := h
  obtain ⟨g1, g2, g3⟩ := nxA_bd (b := b) h9
  obtain ⟨M', a1, a2, a3, a4, a5, a6⟩ := advance_c (N := N) hN hn hb (n - nxA b n a) N (nxA b n a) M (by omega) (by omega) h1 h2
  refine ⟨M', a1, Fr.lx a2, ⟨h1.lx a2, ⟨a3, a4, a5, a6⟩, a2.2.2.2.2.trans h6, (a2.2.1 j (by omega) 4).trans h7, fun k hk => ?_, g2⟩, g3 ht⟩
  rw [a2.2.2.2.1]
  exact h8 k hk
theorem emit_s {n j a d v : Nat} {b : Nat → Nat} {M : Mem} {L : List Op} (hn : n ≤ 160) (hj : 46 ≤ j ∧ j < 52) (h : CS b n j M a L) (hL : L.length < 160) : ∃ M', f_X3_emit j (nI d) (nI v) M = some M' ∧ Fr j M M' ∧ CS b n j M' a (L ++ [(d, v)]) := by
  obtain ⟨h1, ⟨h2, h3, h4, h5⟩, h6, h7, h8, h9⟩ := h
  have l1 : len (j + 6) = 160 := n_3_0 (kd_t (i := j - 46) (by omega) |> fun q => by rw [show 46 + (j - 46) = j by omega] at q; exact q)
  have l2 : len (j + 12) = 160 := n_3_1 (kd_t (i := j - 46) (by omega) |> fun q => by rw [show 46 + (j - 46) = j by omega] at q; exact q)
  unfold f_X3_emit b_X3_emit_0 b_X3_emit_27 b_X3_emit_37
  rw [h7, if_neg (nI_pos (by omega)), if_neg (show ¬ (160 : Int32) ≤ nI L.length from nI_ge (b := 160) hL (by decide)), gd_t (by rw [l1]; exact inb_nI hL (by decide)), FI_sAI, h7, gd_t (by rw [l2]; exact inb_nI hL (by decide)), nI_clamp (by omega), FI_sAI, FI_sAI, h7, nI_1]
  generalize hM' : sFI (sAI (sAI M (j + 6) L.length (nI d)) (j + 12) L.length (nI v)) j 4 (nI (L.length + 1)) = M'
  have f72 : ∀ k, FI M' 72 k = FI M 72 k := fun k => by
    rw [← hM', FI_sFI, if_neg (fun q => by omega)]
    rfl
  have aO : ∀ c, c ≠ j + 6 → c ≠ j + 12 → AI M' c = AI M c := fun c q1 q2 => by
    rw [← hM']
    show AI (sAI (sAI M (j + 6) L.length (nI d)) (j + 12) L.length (nI v)) c = _
    rw [AI_nf q2, AI_nf q1]
  refine ⟨M', rfl, fun c hc => ⟨fun k => ?_, fun k => by rw [← hM']; rfl, aO c (fun q => hc (Or.inr (Or.inr (Or.inl q)))) (fun q => hc (Or.inr (Or.inr (Or.inr q))))⟩, ⟨(f72 1).trans h1.1, fun k hk => by rw [aO 71 (by omega) (by omega)]; exact h1.2 k hk⟩, ⟨(f72 2).trans h2, (f72 3).trans h3, (f72 4).trans h4, fun q => (f72 5).trans (h5 q)⟩, by rw [← hM']; exact h6, ?_, fun k hk => ?_, h9⟩
  · rw [← hM', FI_sFI, if_neg (fun q => hc (Or.inr (Or.inl q.1)))]
    rfl
  · rw [← hM', FI_s, List.length_append]
    rfl
  · rw [List.length_append] at hk
    have hk : k < L.length + 1 := hk
    rw [← hM']
    show AI (sAI (sAI M (j + 6) L.length (nI d)) (j + 12) L.length (nI v)) (j + 6) k = _ ∧ AI (sAI (sAI M (j + 6) L.length (nI d)) (j + 12) L.length (nI v)) (j + 12) k = _
    rw [AI_na (show j + 6 ≠ j + 12 by omega)]
    by_cases e : k = L.length
    · rw [e, AI_s, AI_s, List.getD_eq_getElem?_getD, List.getElem?_append_right (Nat.le_refl _), Nat.sub_self]
      exact ⟨rfl, rfl⟩
    · rw [AI_n e, AI_n e, AI_na (show j + 12 ≠ j + 6 by omega), List.getD_eq_getElem?_getD, List.getElem?_append_left (by omega), ← List.getD_eq_getElem?_getD]
      exact h8 k (by omega)
/-- the class' f reads what g says -/
def GC (b : Nat → Nat) (n j : Nat) (g : Nat → Rs) (f : Mem → Option (Bool × Mem)) : Prop := ∀ (c : Nat) (M : Mem) (a : Nat) (L : List Op), CS b n j M a L → L.length + c ≤ a → ∃ M', f M = some ((g a).1, M') ∧ Fr j M M' ∧ (if (g a).1 = true then CS b n j M' (g a).2.1 (L ++ (g a).2.2) ∧ (L ++ (g a).2.2).length + c ≤ (g a).2.1 ∧ a < (g a).2.1 else CF b n M' (g a).2.1)
theorem CS.cf {b : Nat → Nat} {n j a : Nat} {M : Mem} {L : List Op} (h : CS b n j M a L) : CF b n M a := ⟨h.2.1.2.1, h.2.2.2.2.2⟩
theorem isj {j : Nat} (hj : 46 ≤ j ∧ j < 52) : isK j 3 = true := isK_t (kd_t (i := j - 46) (by omega) |> fun q => by rw [show 46 + (j - 46) = j by omega] at q; exact q)
theorem one_g {N n j x : Nat} {b : Nat → Nat} {Rk : Nat → Nat → Nat → Rs} {Rc : Nat → Int32 → Mem → Option (Bool × Mem)} (hN : 160 < N) (hn : n ≤ 160) (hb : ∀ k, k < n → b k < 256) (hj : 46 ≤ j ∧ j < 52) (hx : x ≤ 5) (hR : ∀ w, x < 5 → GC b n j (Rk w (x + 1)) (Rc w (nI (x + 1)))) : GC b n j (dOne (tkA b n) (nxA b n) (vlA b n) Rk x) (f_X0_readOne N Rc (nI x)) := by
  intro c M a L h hL
  obtain ⟨h1, ⟨h2, h3, h4, h5⟩, h6, h7, h8, h9⟩ := id h
  unfold f_X0_readOne b_X0_readOne_0 b_X0_readOne_20 b_X0_readOne_39 b_X0_readOne_70 dOne
  rw [h4, h6, show (300 : Int32) = nI 300 from rfl, show (301 : Int32) = nI 301 from rfl, show (45 : Int32) = nI 45 from rfl, show (40 : Int32) = nI 40 from rfl, tk_if (by decide), tk_if (by decide), tk_if (by decide), tk_if (by decide), tk_if (by decide), tk_if (by decide)]
  have num : ∀ d : Nat, (tkA b n a = 300 ∨ tkA b n a = 301) → ∃ M', gd (isK j 3) ((f_X3_emit j (nI d) (FI M 72 5) M).bind fun M43 => (f_X0_advance N M43).bind fun M47 => some (true, M47)) = some (true, M') ∧ Fr j M M' ∧ CS b n j M' (nxA b n a) (L ++ [(d, vlA b n a)]) ∧ (L ++ [(d, vlA b n a)]).length + c ≤ nxA b n a ∧ a < nxA b n a := by
    intro d ht
    have han : a < n := Nat.lt_of_le_of_lt (stA_bd (b := b) h9).1 (tkS_302 (show tkA b n a ≠ 302 by omega))
    obtain ⟨M1, a1, a2, a3⟩ := emit_s (d := d) (v := vlA b n a) hn hj h (by omega)
    obtain ⟨M2, c1, c2, c3, c4⟩ := adv_s (N := N) hN hn hb hj a3 (by omega)
    rw [gd_t (isj hj), h5 ht, a1, bind_some_, c1, bind_some_]
    refine ⟨M2, rfl, a2.tr c2, c3, ?_, c4⟩
    rw [List.length_append]
    show L.length + 1 + c ≤ _
    omega
  by_cases t0 : tkA b n a = 300
  · rw [if_pos t0, if_pos t0, if_pos t0]
    obtain ⟨M', a1, a2, a3⟩ := num 0 (Or.inl t0)
    exact ⟨M', a1, a2, by rw [if_pos rfl]; exact a3⟩
  rw [if_neg t0, if_neg t0, if_neg t0]
  by_cases t1 : tkA b n a = 301
  · rw [if_pos t1, if_pos t1]
    obtain ⟨M', a1, a2, a3⟩ := num 1 (Or.inr t1)
    exact ⟨M', a1, a2, by rw [if_pos rfl]; exact a3⟩
  rw [if_neg t1, if_neg t1]
  have sg : ∀ {α : Type} (y z : α), (if nI x < (5 : Int32) then y else z) = if x < 5 then y else z := fun y z => itLt (b := 5) (by omega) (by decide)
  rw [sg, nI_1]
  by_cases t2 : tkA b n a = 45
  · rw [if_pos t2, if_pos t2, if_pos t2]
    by_cases hx5 : x < 5
    · rw [if_pos hx5, if_pos hx5]
      obtain ⟨M1, a1, a2, a3, a4⟩ := adv_s (N := N) hN hn hb hj h (by omega)
      obtain ⟨M2, c1, c2, c3⟩ := hR 2 hx5 (c + 1) M1 (nxA b n a) L a3 (by omega)
      rw [a1, bind_some_, c1, bd2_s]
      unfold tailR
      by_cases q : (Rk 2 (x + 1) (nxA b n a)).1 = true
      · rw [if_pos q] at c3
        rw [if_pos q, if_pos q]
        obtain ⟨d1, d2, d3⟩ := c3
        have hp := d1.2.2.2.2.2
        obtain ⟨M3, e1, e2, e3⟩ := emit_s (d := 2) (v := 0) hn hj d1 (by omega)
        rw [d1.2.2.1, gd_t (isj hj), show f_X3_emit j (2 : Int32) (0 : Int32) M2 = some M3 from e1, bind_some_]
        refine ⟨M3, rfl, (a2.tr c2).tr e2, ?_⟩
        rw [if_pos rfl, ← List.append_assoc]
        refine ⟨e3, ?_, by show a < _; exact Nat.lt_trans a4 d3⟩
        rw [List.length_append]
        show _ + 1 + c ≤ _
        show (L ++ (Rk 2 (x + 1) (nxA b n a)).2.2).length + 1 + c ≤ (Rk 2 (x + 1) (nxA b n a)).2.1
        omega
      · rw [if_neg q] at c3
        rw [if_neg q, if_neg q]
        exact ⟨M2, rfl, a2.tr c2, by rw [if_neg Bool.false_ne_true]; exact c3⟩
    · rw [if_neg hx5, if_neg hx5]
      exact ⟨M, rfl, Fr.rf j M, by rw [if_neg Bool.false_ne_true]; exact h.cf⟩
  rw [if_neg t2, if_neg t2, if_neg t2]
  by_cases t3 : tkA b n a = 40
  · rw [if_pos t3, if_pos t3]
    by_cases hx5 : x < 5
    · rw [if_pos hx5, if_pos hx5]
      obtain ⟨M1, a1, a2, a3, a4⟩ := adv_s (N := N) hN hn hb hj h (by omega)
      obtain ⟨M2, c1, c2, c3⟩ := hR 0 hx5 (c + 1) M1 (nxA b n a) L a3 (by omega)
      rw [a1, bind_some_, c1, bd2_s]
      unfold bindR
      by_cases q : (Rk 0 (x + 1) (nxA b n a)).1 = true
      · rw [if_pos q] at c3
        rw [if_pos q, if_pos q]
        obtain ⟨d1, d2, d3⟩ := c3
        rw [d1.2.1.2.2.1, show (41 : Int32) = nI 41 from rfl, tk_if (by decide)]
        dsimp only
        by_cases t4 : tkA b n (Rk 0 (x + 1) (nxA b n a)).2.1 = 41
        · simp only [if_pos t4]
          obtain ⟨M3, e1, e2, e3, e4⟩ := adv_s (N := N) hN hn hb hj d1 (by omega)
          rw [e1, bind_some_]
          refine ⟨M3, rfl, (a2.tr c2).tr e2, ?_⟩
          rw [if_pos trivial]
          rw [List.append_nil]
          exact ⟨e3, by omega, by omega⟩
        · simp only [if_neg t4]
          exact ⟨M2, rfl, a2.tr c2, by rw [if_neg Bool.false_ne_true]; exact d1.cf⟩
      · rw [if_neg q] at c3
        rw [if_neg q, if_neg q]
        exact ⟨M2, rfl, a2.tr c2, by rw [if_neg Bool.false_ne_true]; exact c3⟩
    · rw [if_neg hx5, if_neg hx5]
      exact ⟨M, rfl, Fr.rf j M, by rw [if_neg Bool.false_ne_true]; exact h.cf⟩
  · rw [if_neg t3, if_neg t3]
    exact ⟨M, rfl, Fr.rf j M, by rw [if_neg Bool.false_ne_true]; exact h.cf⟩
/-- an operator and what is right of it -/
theorem right_g {N n j o c a : Nat} {b : Nat → Nat} {g : Nat → Rs} {f : Mem → Option (Bool × Mem)} {M : Mem} {L : List Op} {K : Mem → Option (Bool × Mem)} {k : Nat → Rs} (hN : 160 < N) (hn : n ≤ 160) (hb : ∀ k, k < n → b k < 256) (hj : 46 ≤ j ∧ j < 52) (hG : GC b n j g f) (h : CS b n j M a L) (hL : L.length + c ≤ a) (ht : tkA b n a ≠ 302)
    (hK : ∀ (M' : Mem) (p : Nat) (L' : List Op), a < p → CS b n j M' p L' → L'.length + c ≤ p → ∃ M'', K M' = some ((k p).1, M'') ∧ Fr j M' M'' ∧ (if (k p).1 = true then CS b n j M'' (k p).2.1 (L' ++ (k p).2.2) ∧ (L' ++ (k p).2.2).length + c ≤ (k p).2.1 ∧ p ≤ (k p).2.1 else CF b n M'' (k p).2.1)) :
    ∃ M', ((f_X0_advance N M).bind fun M1 => bd2 (f M1) fun r M2 => (if r = true then gd (isK (RF M2) 3) ((f_X3_emit (RF M2) (nI o) (0 : Int32) M2).bind fun M3 => K M3) else some (false, M2))) = some ((bindR (tailR (g (nxA b n a)) o) k).1, M') ∧ Fr j M M' ∧ (if (bindR (tailR (g (nxA b n a)) o) k).1 = true then CS b n j M' (bindR (tailR (g (nxA b n a)) o) k).2.1 (L ++ (bindR (tailR (g (nxA b n a)) o) k).2.2) ∧ (L ++ (bindR (tailR (g (nxA b n a)) o) k).2.2).length + c ≤ (bindR (tailR (g (nxA b n a)) o) k).2.1 ∧ a < (bindR (tailR (g (nxA b n a)) o) k).2.1 else CF b n M' (bindR (tailR (g (nxA b n a)) o) k).2.1) := by
  obtain ⟨M1, a1, a2, a3, a4⟩ := adv_s (N := N) hN hn hb hj h ht
  obtain ⟨M2, c1, c2, c3⟩ := hG (c + 1) M1 (nxA b n a) L a3 (by omega)
  rw [a1, bind_some_, c1, bd2_s]
  unfold bindR tailR
  by_cases q : (g (nxA b n a)).1 = true
  · rw [if_pos q] at c3
    rw [if_pos q, if_pos q, if_pos rfl]
    dsimp only
    obtain ⟨d1, d2, d3⟩ := c3
    have hp := d1.2.2.2.2.2
    obtain ⟨M3, e1, e2, e3⟩ := emit_s (d := o) (v := 0) hn hj d1 (by omega)
    obtain ⟨M4, g1, g2, g3⟩ := hK M3 _ _ (Nat.lt_trans a4 d3) e3 (by rw [List.length_append]; show _ + 1 + c ≤ _; omega)
    rw [d1.2.2.1, gd_t (isj hj), show f_X3_emit j (nI o) (0 : Int32) M2 = some M3 from e1, bind_some_, g1]
    refine ⟨M4, rfl, ((a2.tr c2).tr e2).tr g2, ?_⟩
    by_cases z : (k (g (nxA b n a)).2.1).1 = true
    · rw [if_pos z] at g3
      rw [if_pos z, ← List.append_assoc, ← List.append_assoc]
      exact ⟨g3.1, g3.2.1, by have := g3.2.2; omega⟩
    · rw [if_neg z] at g3
      rw [if_neg z]
      exact g3
  · rw [if_neg q] at c3
    rw [if_neg q, if_neg q, if_neg Bool.false_ne_true]
    exact ⟨M2, rfl, a2.tr c2, by rw [if_neg Bool.false_ne_true]; exact c3⟩
theorem Term_loop {N n j x : Nat} {b : Nat → Nat} {g : Nat → Rs} {Rc : Nat → Int32 → Mem → Option (Bool × Mem)} (hN : 160 < N) (hn : n ≤ 160) (hb : ∀ k, k < n → b k < 256) (hj : 46 ≤ j ∧ j < 52) (hG : GC b n j g (f_X0_readOne N Rc (nI x))) : ∀ (m fu i : Nat) (c : Nat) (M : Mem) (a : Nat) (L : List Op), m < fu → i + m = 160 → i < a → CS b n j M a L → L.length + c ≤ a →
    ∃ M', b_X0_readTerm_12 N Rc (nI x) fu (nI i) M = some ((dLoop (tkA b n) (nxA b n) oT g m a).1, M') ∧ Fr j M M' ∧ (if (dLoop (tkA b n) (nxA b n) oT g m a).1 = true then CS b n j M' (dLoop (tkA b n) (nxA b n) oT g m a).2.1 (L ++ (dLoop (tkA b n) (nxA b n) oT g m a).2.2) ∧ (L ++ (dLoop (tkA b n) (nxA b n) oT g m a).2.2).length + c ≤ (dLoop (tkA b n) (nxA b n) oT g m a).2.1 ∧ a ≤ (dLoop (tkA b n) (nxA b n) oT g m a).2.1 else CF b n M' (dLoop (tkA b n) (nxA b n) oT g m a).2.1) := by
  intro m
  induction m with
  | zero =>
    intro fu i c M a L hf hi hia h hL
    have := h.2.2.2.2.2
    omega
  | succ m ih =>
    intro fu i c M a L hf hi hia h hL
    obtain ⟨fu, rfl⟩ : ∃ z, fu = z + 1 := ⟨fu - 1, by omega⟩
    rw [b_X0_readTerm_12, if_neg (show ¬ (160 : Int32) ≤ nI i from nI_ge (b := 160) (by omega) (by decide)), h.2.1.2.2.1, show (42 : Int32) = nI 42 from rfl, tk_if (by decide), nI_1]
    by_cases t : tkA b n a = 42
    · have e : dLoop (tkA b n) (nxA b n) oT g (m + 1) a = bindR (tailR (g (nxA b n a)) 4) (dLoop (tkA b n) (nxA b n) oT g m) := by
        show (match oT (tkA b n a) with | none => _ | some o => _) = _
        rw [t]
        rfl
      rw [if_pos t, e]
      obtain ⟨M', a1, a2, a3⟩ := right_g (o := 4) (K := b_X0_readTerm_12 N Rc (nI x) fu (nI (i + 1))) (k := dLoop (tkA b n) (nxA b n) oT g m) hN hn hb hj hG h hL (by omega) (fun M' p L' hp h' hL' => ih fu (i + 1) c M' p L' (by omega) (by omega) (by omega) h' hL')
      refine ⟨M', a1, a2, ?_⟩
      by_cases z : (bindR (tailR (g (nxA b n a)) 4) (dLoop (tkA b n) (nxA b n) oT g m)).1 = true
      · rw [if_pos z] at a3
        rw [if_pos z]
        exact ⟨a3.1, a3.2.1, by have := a3.2.2; omega⟩
      · rw [if_neg z] at a3
        rw [if_neg z]
        exact a3
    · have e : dLoop (tkA b n) (nxA b n) oT g (m + 1) a = (true, a, []) := by
        show (match oT (tkA b n a) with | none => _ | some o => _) = _
        rw [show oT (tkA b n a) = none from if_neg t]
      rw [if_neg t, e]
      refine ⟨M, rfl, Fr.rf j M, ?_⟩
      rw [if_pos rfl]
      dsimp only
      rw [List.append_nil]
      exact ⟨h, hL, Nat.le_refl _⟩
theorem Term_g {N n j x : Nat} {b : Nat → Nat} {g : Nat → Rs} {Rc : Nat → Int32 → Mem → Option (Bool × Mem)} (hN : 160 < N) (hn : n ≤ 160) (hb : ∀ k, k < n → b k < 256) (hj : 46 ≤ j ∧ j < 52) (hG : GC b n j g (f_X0_readOne N Rc (nI x))) : GC b n j (dLvl (tkA b n) (nxA b n) oT g) (f_X0_readTerm N Rc (nI x)) := by
  intro c M a L h hL
  obtain ⟨M1, a1, a2, a3⟩ := hG c M a L h hL
  unfold f_X0_readTerm b_X0_readTerm_0 dLvl bindR
  rw [a1, bd2_s]
  by_cases q : (g a).1 = true
  · rw [if_pos q] at a3
    rw [if_pos q, if_pos q]
    dsimp only
    obtain ⟨M2, c1, c2, c3⟩ := Term_loop (N := N) hN hn hb hj hG 160 N 0 c M1 (g a).2.1 (L ++ (g a).2.2) (by omega) (by omega) (by have := a3.2.2; omega) a3.1 a3.2.1
    refine ⟨M2, c1, a2.tr c2, ?_⟩
    by_cases z : (dLoop (tkA b n) (nxA b n) oT g 160 (g a).2.1).1 = true
    · rw [if_pos z] at c3
      rw [if_pos z, ← List.append_assoc]
      exact ⟨c3.1, c3.2.1, by have := a3.2.2; have := c3.2.2; omega⟩
    · rw [if_neg z] at c3
      rw [if_neg z]
      exact c3
  · rw [if_neg q] at a3
    rw [if_neg q, if_neg q]
    exact ⟨M1, rfl, a2, by rw [if_neg Bool.false_ne_true]; exact a3⟩
theorem Sum_loop {N n j x : Nat} {b : Nat → Nat} {g : Nat → Rs} {Rc : Nat → Int32 → Mem → Option (Bool × Mem)} (hN : 160 < N) (hn : n ≤ 160) (hb : ∀ k, k < n → b k < 256) (hj : 46 ≤ j ∧ j < 52) (hG : GC b n j g (f_X0_readTerm N Rc (nI x))) : ∀ (m fu i : Nat) (c : Nat) (M : Mem) (a : Nat) (L : List Op), m < fu → i + m = 160 → i < a → CS b n j M a L → L.length + c ≤ a →
    ∃ M', b_X0_readSum_12 N Rc (nI x) fu (nI i) M = some ((dLoop (tkA b n) (nxA b n) oS g m a).1, M') ∧ Fr j M M' ∧ (if (dLoop (tkA b n) (nxA b n) oS g m a).1 = true then CS b n j M' (dLoop (tkA b n) (nxA b n) oS g m a).2.1 (L ++ (dLoop (tkA b n) (nxA b n) oS g m a).2.2) ∧ (L ++ (dLoop (tkA b n) (nxA b n) oS g m a).2.2).length + c ≤ (dLoop (tkA b n) (nxA b n) oS g m a).2.1 ∧ a ≤ (dLoop (tkA b n) (nxA b n) oS g m a).2.1 else CF b n M' (dLoop (tkA b n) (nxA b n) oS g m a).2.1) := by
  intro m
  induction m with
  | zero =>
    intro fu i c M a L hf hi hia h hL
    have := h.2.2.2.2.2
    omega
  | succ m ih =>
    intro fu i c M a L hf hi hia h hL
    obtain ⟨fu, rfl⟩ : ∃ z, fu = z + 1 := ⟨fu - 1, by omega⟩
    rw [b_X0_readSum_12, if_neg (show ¬ (160 : Int32) ≤ nI i from nI_ge (b := 160) (by omega) (by decide)), h.2.1.2.2.1, show (43 : Int32) = nI 43 from rfl, show (45 : Int32) = nI 45 from rfl, tk_if (by decide), tk_if (by decide)]
    have go : ∀ o : Nat, oS (tkA b n a) = some o → tkA b n a ≠ 302 → ∃ M', b_X0_readSum_52 N Rc (nI x) (b_X0_readSum_12 N Rc (nI x) fu) (nI i) (nI o) M = some ((dLoop (tkA b n) (nxA b n) oS g (m + 1) a).1, M') ∧ Fr j M M' ∧ (if (dLoop (tkA b n) (nxA b n) oS g (m + 1) a).1 = true then CS b n j M' (dLoop (tkA b n) (nxA b n) oS g (m + 1) a).2.1 (L ++ (dLoop (tkA b n) (nxA b n) oS g (m + 1) a).2.2) ∧ (L ++ (dLoop (tkA b n) (nxA b n) oS g (m + 1) a).2.2).length + c ≤ (dLoop (tkA b n) (nxA b n) oS g (m + 1) a).2.1 ∧ a ≤ (dLoop (tkA b n) (nxA b n) oS g (m + 1) a).2.1 else CF b n M' (dLoop (tkA b n) (nxA b n) oS g (m + 1) a).2.1) := by
      intro o ho ht
      have e : dLoop (tkA b n) (nxA b n) oS g (m + 1) a = bindR (tailR (g (nxA b n a)) o) (dLoop (tkA b n) (nxA b n) oS g m) := by
        show (match oS (tkA b n a) with | none => _ | some o => _) = _
        rw [ho]
      rw [e]
      obtain ⟨M', a1, a2, a3⟩ := right_g (o := o) (K := b_X0_readSum_12 N Rc (nI x) fu (nI (i + 1))) (k := dLoop (tkA b n) (nxA b n) oS g m) hN hn hb hj hG h hL ht (fun M' p L' hp h' hL' => ih fu (i + 1) c M' p L' (by omega) (by omega) (by omega) h' hL')
      unfold b_X0_readSum_52
      rw [nI_1]
      refine ⟨M', a1, a2, ?_⟩
      by_cases z : (bindR (tailR (g (nxA b n a)) o) (dLoop (tkA b n) (nxA b n) oS g m)).1 = true
      · rw [if_pos z] at a3
        rw [if_pos z]
        exact ⟨a3.1, a3.2.1, by have := a3.2.2; omega⟩
      · rw [if_neg z] at a3
        rw [if_neg z]
        exact a3
    have e37 : b_X0_readSum_37 N Rc (nI x) (b_X0_readSum_12 N Rc (nI x) fu) (nI i) M = if tkA b n a = 43 then b_X0_readSum_52 N Rc (nI x) (b_X0_readSum_12 N Rc (nI x) fu) (nI i) (nI 5) M else b_X0_readSum_52 N Rc (nI x) (b_X0_readSum_12 N Rc (nI x) fu) (nI i) (nI 6) M := by
      unfold b_X0_readSum_37
      rw [h.2.1.2.2.1, show (43 : Int32) = nI 43 from rfl, tk_if (by decide)]
      rfl
    rw [e37]
    by_cases t : tkA b n a = 43
    · rw [if_pos t, if_pos t]
      exact go 5 (by unfold oS; rw [if_pos t]) (by omega)
    · rw [if_neg t, if_neg t]
      by_cases t2 : tkA b n a = 45
      · rw [if_pos t2]
        exact go 6 (by unfold oS; rw [if_neg t, if_pos t2]) (by omega)
      · have e : dLoop (tkA b n) (nxA b n) oS g (m + 1) a = (true, a, []) := by
          show (match oS (tkA b n a) with | none => _ | some o => _) = _
          rw [show oS (tkA b n a) = none by unfold oS; rw [if_neg t, if_neg t2]]
        rw [if_neg t2, e]
        refine ⟨M, rfl, Fr.rf j M, ?_⟩
        rw [if_pos rfl]
        dsimp only
        rw [List.append_nil]
        exact ⟨h, hL, Nat.le_refl _⟩
theorem Sum_g {N n j x : Nat} {b : Nat → Nat} {g : Nat → Rs} {Rc : Nat → Int32 → Mem → Option (Bool × Mem)} (hN : 160 < N) (hn : n ≤ 160) (hb : ∀ k, k < n → b k < 256) (hj : 46 ≤ j ∧ j < 52) (hG : GC b n j g (f_X0_readTerm N Rc (nI x))) : GC b n j (dLvl (tkA b n) (nxA b n) oS g) (f_X0_readSum N Rc (nI x)) := by
  intro c M a L h hL
  obtain ⟨M1, a1, a2, a3⟩ := hG c M a L h hL
  unfold f_X0_readSum b_X0_readSum_0 dLvl bindR
  rw [a1, bd2_s]
  by_cases q : (g a).1 = true
  · rw [if_pos q] at a3
    rw [if_pos q, if_pos q]
    dsimp only
    obtain ⟨M2, c1, c2, c3⟩ := Sum_loop (N := N) hN hn hb hj hG 160 N 0 c M1 (g a).2.1 (L ++ (g a).2.2) (by omega) (by omega) (by have := a3.2.2; omega) a3.1 a3.2.1
    refine ⟨M2, c1, a2.tr c2, ?_⟩
    by_cases z : (dLoop (tkA b n) (nxA b n) oS g 160 (g a).2.1).1 = true
    · rw [if_pos z] at c3
      rw [if_pos z, ← List.append_assoc]
      exact ⟨c3.1, c3.2.1, by have := a3.2.2; have := c3.2.2; omega⟩
    · rw [if_neg z] at c3
      rw [if_neg z]
      exact c3
  · rw [if_neg q] at a3
    rw [if_neg q, if_neg q]
    exact ⟨M1, rfl, a2, by rw [if_neg Bool.false_ne_true]; exact a3⟩
theorem cmp_g {N n j x : Nat} {b : Nat → Nat} {Rk : Nat → Nat → Nat → Rs} {Rc : Nat → Int32 → Mem → Option (Bool × Mem)} (hN : 160 < N) (hn : n ≤ 160) (hb : ∀ k, k < n → b k < 256) (hj : 46 ≤ j ∧ j < 52) (hG : GC b n j (dSum (tkA b n) (nxA b n) (vlA b n) Rk x) (f_X0_readSum N Rc (nI x))) : GC b n j (dCmp (tkA b n) (nxA b n) (vlA b n) Rk x) (f_X0_readCompared N Rc (nI x)) := by
  intro c M a L h hL
  obtain ⟨M1, a1, a2, a3⟩ := hG c M a L h hL
  unfold f_X0_readCompared b_X0_readCompared_0 b_X0_readCompared_30 b_X0_readCompared_46 dCmp
  rw [a1, bd2_s]
  generalize hr : dSum (tkA b n) (nxA b n) (vlA b n) Rk x a = r at a3 ⊢
  unfold bindR
  by_cases q : r.1 = true
  · rw [if_pos q] at a3
    rw [if_pos q, if_pos q]
    dsimp only
    obtain ⟨d1, d2, d3⟩ := a3
    rw [d1.2.1.2.2.1, show (60 : Int32) = nI 60 from rfl, show (61 : Int32) = nI 61 from rfl, tk_if (by decide), tk_if (by decide), tk_if (by decide)]
    have go : ∀ o : Nat, tkA b n r.2.1 ≠ 302 → ∃ M', ((f_X0_advance N M1).bind fun M48 => bd2 (f_X0_readSum N Rc (nI x) M48) fun r53 M53 => (if r53 = true then gd (isK (RF M53) 3) ((f_X3_emit (RF M53) (nI o) (0 : Int32) M53).bind fun M67 => some (true, M67)) else some (false, M53))) = some ((tailR (dSum (tkA b n) (nxA b n) (vlA b n) Rk x (nxA b n r.2.1)) o).1, M') ∧ Fr j M M' ∧ (if (tailR (dSum (tkA b n) (nxA b n) (vlA b n) Rk x (nxA b n r.2.1)) o).1 = true then CS b n j M' (tailR (dSum (tkA b n) (nxA b n) (vlA b n) Rk x (nxA b n r.2.1)) o).2.1 (L ++ (r.2.2 ++ (tailR (dSum (tkA b n) (nxA b n) (vlA b n) Rk x (nxA b n r.2.1)) o).2.2)) ∧ (L ++ (r.2.2 ++ (tailR (dSum (tkA b n) (nxA b n) (vlA b n) Rk x (nxA b n r.2.1)) o).2.2)).length + c ≤ (tailR (dSum (tkA b n) (nxA b n) (vlA b n) Rk x (nxA b n r.2.1)) o).2.1 ∧ a < (tailR (dSum (tkA b n) (nxA b n) (vlA b n) Rk x (nxA b n r.2.1)) o).2.1 else CF b n M' (tailR (dSum (tkA b n) (nxA b n) (vlA b n) Rk x (nxA b n r.2.1)) o).2.1) := by
      intro o ht
      obtain ⟨M', b1, b2, b3⟩ := right_g (o := o) (K := fun M => some (true, M)) (k := fun p => (true, p, [])) hN hn hb hj hG d1 d2 ht (fun M' p L' hp h' hL' => ⟨M', rfl, Fr.rf j M', by
        rw [if_pos rfl]
        dsimp only
        rw [List.append_nil]
        exact ⟨h', hL', Nat.le_refl _⟩⟩)
      have e : bindR (tailR (dSum (tkA b n) (nxA b n) (vlA b n) Rk x (nxA b n r.2.1)) o) (fun p => (true, p, [])) = tailR (dSum (tkA b n) (nxA b n) (vlA b n) Rk x (nxA b n r.2.1)) o := by
        unfold bindR tailR
        by_cases z : (dSum (tkA b n) (nxA b n) (vlA b n) Rk x (nxA b n r.2.1)).1 = true
        · rw [if_pos z, if_pos rfl]
          dsimp only
          rw [List.append_nil]
        · rw [if_neg z, if_neg Bool.false_ne_true]
      rw [e] at b1 b3
      refine ⟨M', b1, a2.tr b2, ?_⟩
      by_cases z : (tailR (dSum (tkA b n) (nxA b n) (vlA b n) Rk x (nxA b n r.2.1)) o).1 = true
      · rw [if_pos z] at b3
        rw [if_pos z, ← List.append_assoc]
        exact ⟨b3.1, b3.2.1, by have := b3.2.2; omega⟩
      · rw [if_neg z] at b3
        rw [if_neg z]
        exact b3
    by_cases t : tkA b n r.2.1 = 60
    · simp only [if_pos t]
      exact go 7 (by omega)
    · simp only [if_neg t]
      by_cases t2 : tkA b n r.2.1 = 61
      · simp only [if_pos t2]
        exact go 8 (by omega)
      · simp only [if_neg t2]
        refine ⟨M1, rfl, a2, ?_⟩
        rw [if_pos trivial]
        rw [List.append_nil]
        exact ⟨d1, d2, d3⟩
  · rw [if_neg q] at a3
    rw [if_neg q, if_neg q]
    exact ⟨M1, rfl, a2, by rw [if_neg Bool.false_ne_true]; exact a3⟩
theorem not_g {N n j x : Nat} {b : Nat → Nat} {Rk : Nat → Nat → Nat → Rs} {Rc : Nat → Int32 → Mem → Option (Bool × Mem)} (hN : 160 < N) (hn : n ≤ 160) (hb : ∀ k, k < n → b k < 256) (hj : 46 ≤ j ∧ j < 52) (hx : x ≤ 5) (hR : ∀ w, x < 5 → GC b n j (Rk w (x + 1)) (Rc w (nI (x + 1)))) (hG : GC b n j (dCmp (tkA b n) (nxA b n) (vlA b n) Rk x) (f_X0_readCompared N Rc (nI x))) : GC b n j (dNot (tkA b n) (nxA b n) (vlA b n) Rk x) (f_X0_readNot N Rc (nI x)) := by
  intro c M a L h hL
  unfold f_X0_readNot b_X0_readNot_0 dNot
  rw [h.2.1.2.2.1, show (205 : Int32) = nI 205 from rfl, tk_if (by decide), show (5 : Int32) = nI 5 from rfl, itLt (by omega) (by decide), nI_1]
  by_cases t : tkA b n a = 205
  · rw [if_pos t, if_pos t]
    by_cases hx5 : x < 5
    · rw [if_pos hx5, if_pos hx5]
      obtain ⟨M', b1, b2, b3⟩ := right_g (o := 3) (K := fun M => some (true, M)) (k := fun p => (true, p, [])) hN hn hb hj (hR 1 hx5) h hL (by omega) (fun M' p L' hp h' hL' => ⟨M', rfl, Fr.rf j M', by
        rw [if_pos rfl]
        dsimp only
        rw [List.append_nil]
        exact ⟨h', hL', Nat.le_refl _⟩⟩)
      have e : bindR (tailR (Rk 1 (x + 1) (nxA b n a)) 3) (fun p => (true, p, [])) = tailR (Rk 1 (x + 1) (nxA b n a)) 3 := by
        unfold bindR tailR
        by_cases z : (Rk 1 (x + 1) (nxA b n a)).1 = true
        · rw [if_pos z, if_pos rfl]
          dsimp only
          rw [List.append_nil]
        · rw [if_neg z, if_neg Bool.false_ne_true]
      rw [e] at b1 b3
      exact ⟨M', b1, b2, b3⟩
    · rw [if_neg hx5, if_neg hx5]
      exact ⟨M, rfl, Fr.rf j M, by rw [if_neg Bool.false_ne_true]; exact h.cf⟩
  · rw [if_neg t, if_neg t]
    obtain ⟨M1, a1, a2, a3⟩ := hG c M a L h hL
    rw [a1, bd2_s]
    exact ⟨M1, rfl, a2, a3⟩
theorem Both_loop {N n j x : Nat} {b : Nat → Nat} {g : Nat → Rs} {Rc : Nat → Int32 → Mem → Option (Bool × Mem)} (hN : 160 < N) (hn : n ≤ 160) (hb : ∀ k, k < n → b k < 256) (hj : 46 ≤ j ∧ j < 52) (hG : GC b n j g (f_X0_readNot N Rc (nI x))) : ∀ (m fu i : Nat) (c : Nat) (M : Mem) (a : Nat) (L : List Op), m < fu → i + m = 160 → i < a → CS b n j M a L → L.length + c ≤ a →
    ∃ M', b_X0_readBoth_12 N Rc (nI x) fu (nI i) M = some ((dLoop (tkA b n) (nxA b n) oB g m a).1, M') ∧ Fr j M M' ∧ (if (dLoop (tkA b n) (nxA b n) oB g m a).1 = true then CS b n j M' (dLoop (tkA b n) (nxA b n) oB g m a).2.1 (L ++ (dLoop (tkA b n) (nxA b n) oB g m a).2.2) ∧ (L ++ (dLoop (tkA b n) (nxA b n) oB g m a).2.2).length + c ≤ (dLoop (tkA b n) (nxA b n) oB g m a).2.1 ∧ a ≤ (dLoop (tkA b n) (nxA b n) oB g m a).2.1 else CF b n M' (dLoop (tkA b n) (nxA b n) oB g m a).2.1) := by
  intro m
  induction m with
  | zero =>
    intro fu i c M a L hf hi hia h hL
    have := h.2.2.2.2.2
    omega
  | succ m ih =>
    intro fu i c M a L hf hi hia h hL
    obtain ⟨fu, rfl⟩ : ∃ z, fu = z + 1 := ⟨fu - 1, by omega⟩
    rw [b_X0_readBoth_12, if_neg (show ¬ (160 : Int32) ≤ nI i from nI_ge (b := 160) (by omega) (by decide)), h.2.1.2.2.1, show (204 : Int32) = nI 204 from rfl, tk_if (by decide), nI_1]
    by_cases t : tkA b n a = 204
    · have e : dLoop (tkA b n) (nxA b n) oB g (m + 1) a = bindR (tailR (g (nxA b n a)) 9) (dLoop (tkA b n) (nxA b n) oB g m) := by
        show (match oB (tkA b n a) with | none => _ | some o => _) = _
        rw [t]
        rfl
      rw [if_pos t, e]
      obtain ⟨M', a1, a2, a3⟩ := right_g (o := 9) (K := b_X0_readBoth_12 N Rc (nI x) fu (nI (i + 1))) (k := dLoop (tkA b n) (nxA b n) oB g m) hN hn hb hj hG h hL (by omega) (fun M' p L' hp h' hL' => ih fu (i + 1) c M' p L' (by omega) (by omega) (by omega) h' hL')
      refine ⟨M', a1, a2, ?_⟩
      by_cases z : (bindR (tailR (g (nxA b n a)) 9) (dLoop (tkA b n) (nxA b n) oB g m)).1 = true
      · rw [if_pos z] at a3
        rw [if_pos z]
        exact ⟨a3.1, a3.2.1, by have := a3.2.2; omega⟩
      · rw [if_neg z] at a3
        rw [if_neg z]
        exact a3
    · have e : dLoop (tkA b n) (nxA b n) oB g (m + 1) a = (true, a, []) := by
        show (match oB (tkA b n a) with | none => _ | some o => _) = _
        rw [show oB (tkA b n a) = none from if_neg t]
      rw [if_neg t, e]
      refine ⟨M, rfl, Fr.rf j M, ?_⟩
      rw [if_pos rfl]
      dsimp only
      rw [List.append_nil]
      exact ⟨h, hL, Nat.le_refl _⟩
theorem Both_g {N n j x : Nat} {b : Nat → Nat} {g : Nat → Rs} {Rc : Nat → Int32 → Mem → Option (Bool × Mem)} (hN : 160 < N) (hn : n ≤ 160) (hb : ∀ k, k < n → b k < 256) (hj : 46 ≤ j ∧ j < 52) (hG : GC b n j g (f_X0_readNot N Rc (nI x))) : GC b n j (dLvl (tkA b n) (nxA b n) oB g) (f_X0_readBoth N Rc (nI x)) := by
  intro c M a L h hL
  obtain ⟨M1, a1, a2, a3⟩ := hG c M a L h hL
  unfold f_X0_readBoth b_X0_readBoth_0 dLvl bindR
  rw [a1, bd2_s]
  by_cases q : (g a).1 = true
  · rw [if_pos q] at a3
    rw [if_pos q, if_pos q]
    dsimp only
    obtain ⟨M2, c1, c2, c3⟩ := Both_loop (N := N) hN hn hb hj hG 160 N 0 c M1 (g a).2.1 (L ++ (g a).2.2) (by omega) (by omega) (by have := a3.2.2; omega) a3.1 a3.2.1
    refine ⟨M2, c1, a2.tr c2, ?_⟩
    by_cases z : (dLoop (tkA b n) (nxA b n) oB g 160 (g a).2.1).1 = true
    · rw [if_pos z] at c3
      rw [if_pos z, ← List.append_assoc]
      exact ⟨c3.1, c3.2.1, by have := a3.2.2; have := c3.2.2; omega⟩
    · rw [if_neg z] at c3
      rw [if_neg z]
      exact c3
  · rw [if_neg q] at a3
    rw [if_neg q, if_neg q]
    exact ⟨M1, rfl, a2, by rw [if_neg Bool.false_ne_true]; exact a3⟩
theorem Either_loop {N n j x : Nat} {b : Nat → Nat} {g : Nat → Rs} {Rc : Nat → Int32 → Mem → Option (Bool × Mem)} (hN : 160 < N) (hn : n ≤ 160) (hb : ∀ k, k < n → b k < 256) (hj : 46 ≤ j ∧ j < 52) (hG : GC b n j g (f_X0_readBoth N Rc (nI x))) : ∀ (m fu i : Nat) (c : Nat) (M : Mem) (a : Nat) (L : List Op), m < fu → i + m = 160 → i < a → CS b n j M a L → L.length + c ≤ a →
    ∃ M', b_X0_readEither_12 N Rc (nI x) fu (nI i) M = some ((dLoop (tkA b n) (nxA b n) oE g m a).1, M') ∧ Fr j M M' ∧ (if (dLoop (tkA b n) (nxA b n) oE g m a).1 = true then CS b n j M' (dLoop (tkA b n) (nxA b n) oE g m a).2.1 (L ++ (dLoop (tkA b n) (nxA b n) oE g m a).2.2) ∧ (L ++ (dLoop (tkA b n) (nxA b n) oE g m a).2.2).length + c ≤ (dLoop (tkA b n) (nxA b n) oE g m a).2.1 ∧ a ≤ (dLoop (tkA b n) (nxA b n) oE g m a).2.1 else CF b n M' (dLoop (tkA b n) (nxA b n) oE g m a).2.1) := by
  intro m
  induction m with
  | zero =>
    intro fu i c M a L hf hi hia h hL
    have := h.2.2.2.2.2
    omega
  | succ m ih =>
    intro fu i c M a L hf hi hia h hL
    obtain ⟨fu, rfl⟩ : ∃ z, fu = z + 1 := ⟨fu - 1, by omega⟩
    rw [b_X0_readEither_12, if_neg (show ¬ (160 : Int32) ≤ nI i from nI_ge (b := 160) (by omega) (by decide)), h.2.1.2.2.1, show (203 : Int32) = nI 203 from rfl, tk_if (by decide), nI_1]
    by_cases t : tkA b n a = 203
    · have e : dLoop (tkA b n) (nxA b n) oE g (m + 1) a = bindR (tailR (g (nxA b n a)) 10) (dLoop (tkA b n) (nxA b n) oE g m) := by
        show (match oE (tkA b n a) with | none => _ | some o => _) = _
        rw [t]
        rfl
      rw [if_pos t, e]
      obtain ⟨M', a1, a2, a3⟩ := right_g (o := 10) (K := b_X0_readEither_12 N Rc (nI x) fu (nI (i + 1))) (k := dLoop (tkA b n) (nxA b n) oE g m) hN hn hb hj hG h hL (by omega) (fun M' p L' hp h' hL' => ih fu (i + 1) c M' p L' (by omega) (by omega) (by omega) h' hL')
      refine ⟨M', a1, a2, ?_⟩
      by_cases z : (bindR (tailR (g (nxA b n a)) 10) (dLoop (tkA b n) (nxA b n) oE g m)).1 = true
      · rw [if_pos z] at a3
        rw [if_pos z]
        exact ⟨a3.1, a3.2.1, by have := a3.2.2; omega⟩
      · rw [if_neg z] at a3
        rw [if_neg z]
        exact a3
    · have e : dLoop (tkA b n) (nxA b n) oE g (m + 1) a = (true, a, []) := by
        show (match oE (tkA b n a) with | none => _ | some o => _) = _
        rw [show oE (tkA b n a) = none from if_neg t]
      rw [if_neg t, e]
      refine ⟨M, rfl, Fr.rf j M, ?_⟩
      rw [if_pos rfl]
      dsimp only
      rw [List.append_nil]
      exact ⟨h, hL, Nat.le_refl _⟩
theorem Either_g {N n j x : Nat} {b : Nat → Nat} {g : Nat → Rs} {Rc : Nat → Int32 → Mem → Option (Bool × Mem)} (hN : 160 < N) (hn : n ≤ 160) (hb : ∀ k, k < n → b k < 256) (hj : 46 ≤ j ∧ j < 52) (hG : GC b n j g (f_X0_readBoth N Rc (nI x))) : GC b n j (dLvl (tkA b n) (nxA b n) oE g) (f_X0_readEither N Rc (nI x)) := by
  intro c M a L h hL
  obtain ⟨M1, a1, a2, a3⟩ := hG c M a L h hL
  unfold f_X0_readEither b_X0_readEither_0 dLvl bindR
  rw [a1, bd2_s]
  by_cases q : (g a).1 = true
  · rw [if_pos q] at a3
    rw [if_pos q, if_pos q]
    dsimp only
    obtain ⟨M2, c1, c2, c3⟩ := Either_loop (N := N) hN hn hb hj hG 160 N 0 c M1 (g a).2.1 (L ++ (g a).2.2) (by omega) (by omega) (by have := a3.2.2; omega) a3.1 a3.2.1
    refine ⟨M2, c1, a2.tr c2, ?_⟩
    by_cases z : (dLoop (tkA b n) (nxA b n) oE g 160 (g a).2.1).1 = true
    · rw [if_pos z] at c3
      rw [if_pos z, ← List.append_assoc]
      exact ⟨c3.1, c3.2.1, by have := a3.2.2; have := c3.2.2; omega⟩
    · rw [if_neg z] at c3
      rw [if_neg z]
      exact c3
  · rw [if_neg q] at a3
    rw [if_neg q, if_neg q]
    exact ⟨M1, rfl, a2, by rw [if_neg Bool.false_ne_true]; exact a3⟩
/-- the reader's recursion -/
theorem rec_g {N n j : Nat} {b : Nat → Nat} (hN : 160 < N) (hn : n ≤ 160) (hb : ∀ k, k < n → b k < 256) (hj : 46 ≤ j ∧ j < 52) : ∀ d w x : Nat, x ≤ 5 → 6 ≤ x + d → GC b n j (DR (tkA b n) (nxA b n) (vlA b n) d w x) (RKd N d w (nI x))
  | 0, _, x, h1, h2 => by omega
  | d + 1, w, x, h1, h2 => by
    have hR : ∀ w, x < 5 → GC b n j (DR (tkA b n) (nxA b n) (vlA b n) d w (x + 1)) (RKd N d w (nI (x + 1))) := fun w hx => rec_g hN hn hb hj d w (x + 1) (by omega) (by omega)
    have g1 := one_g (N := N) (Rk := DR (tkA b n) (nxA b n) (vlA b n) d) (Rc := RKd N d) hN hn hb hj h1 hR
    have g2 := Term_g hN hn hb hj g1
    have g3 := Sum_g hN hn hb hj g2
    have g4 := cmp_g (Rk := DR (tkA b n) (nxA b n) (vlA b n) d) hN hn hb hj g3
    have g5 := not_g hN hn hb hj h1 hR g4
    have g6 := Both_g hN hn hb hj g5
    have g7 := Either_g hN hn hb hj g6
    intro c M a L h hL
    show ∃ M', (if w = 0 then f_X0_readEither N (RKd N d) (nI x) M else if w = 1 then f_X0_readNot N (RKd N d) (nI x) M else f_X0_readOne N (RKd N d) (nI x) M) = some ((if w = 0 then dEither (tkA b n) (nxA b n) (vlA b n) (DR (tkA b n) (nxA b n) (vlA b n) d) x a else if w = 1 then dNot (tkA b n) (nxA b n) (vlA b n) (DR (tkA b n) (nxA b n) (vlA b n) d) x a else dOne (tkA b n) (nxA b n) (vlA b n) (DR (tkA b n) (nxA b n) (vlA b n) d) x a).1, M') ∧ Fr j M M' ∧ (if (if w = 0 then dEither (tkA b n) (nxA b n) (vlA b n) (DR (tkA b n) (nxA b n) (vlA b n) d) x a else if w = 1 then dNot (tkA b n) (nxA b n) (vlA b n) (DR (tkA b n) (nxA b n) (vlA b n) d) x a else dOne (tkA b n) (nxA b n) (vlA b n) (DR (tkA b n) (nxA b n) (vlA b n) d) x a).1 = true then CS b n j M' (if w = 0 then dEither (tkA b n) (nxA b n) (vlA b n) (DR (tkA b n) (nxA b n) (vlA b n) d) x a else if w = 1 then dNot (tkA b n) (nxA b n) (vlA b n) (DR (tkA b n) (nxA b n) (vlA b n) d) x a else dOne (tkA b n) (nxA b n) (vlA b n) (DR (tkA b n) (nxA b n) (vlA b n) d) x a).2.1 (L ++ (if w = 0 then dEither (tkA b n) (nxA b n) (vlA b n) (DR (tkA b n) (nxA b n) (vlA b n) d) x a else if w = 1 then dNot (tkA b n) (nxA b n) (vlA b n) (DR (tkA b n) (nxA b n) (vlA b n) d) x a else dOne (tkA b n) (nxA b n) (vlA b n) (DR (tkA b n) (nxA b n) (vlA b n) d) x a).2.2) ∧ (L ++ (if w = 0 then dEither (tkA b n) (nxA b n) (vlA b n) (DR (tkA b n) (nxA b n) (vlA b n) d) x a else if w = 1 then dNot (tkA b n) (nxA b n) (vlA b n) (DR (tkA b n) (nxA b n) (vlA b n) d) x a else dOne (tkA b n) (nxA b n) (vlA b n) (DR (tkA b n) (nxA b n) (vlA b n) d) x a).2.2).length + c ≤ (if w = 0 then dEither (tkA b n) (nxA b n) (vlA b n) (DR (tkA b n) (nxA b n) (vlA b n) d) x a else if w = 1 then dNot (tkA b n) (nxA b n) (vlA b n) (DR (tkA b n) (nxA b n) (vlA b n) d) x a else dOne (tkA b n) (nxA b n) (vlA b n) (DR (tkA b n) (nxA b n) (vlA b n) d) x a).2.1 ∧ a < (if w = 0 then dEither (tkA b n) (nxA b n) (vlA b n) (DR (tkA b n) (nxA b n) (vlA b n) d) x a else if w = 1 then dNot (tkA b n) (nxA b n) (vlA b n) (DR (tkA b n) (nxA b n) (vlA b n) d) x a else dOne (tkA b n) (nxA b n) (vlA b n) (DR (tkA b n) (nxA b n) (vlA b n) d) x a).2.1 else CF b n M' (if w = 0 then dEither (tkA b n) (nxA b n) (vlA b n) (DR (tkA b n) (nxA b n) (vlA b n) d) x a else if w = 1 then dNot (tkA b n) (nxA b n) (vlA b n) (DR (tkA b n) (nxA b n) (vlA b n) d) x a else dOne (tkA b n) (nxA b n) (vlA b n) (DR (tkA b n) (nxA b n) (vlA b n) d) x a).2.1)
    by_cases w0 : w = 0
    · simp only [if_pos w0]
      exact g7 c M a L h hL
    · simp only [if_neg w0]
      by_cases w1 : w = 1
      · simp only [if_pos w1]
        exact g5 c M a L h hL
      · simp only [if_neg w1]
        exact g1 c M a L h hL
theorem either_g {N n j : Nat} {b : Nat → Nat} (hN : 160 < N) (hn : n ≤ 160) (hb : ∀ k, k < n → b k < 256) (hj : 46 ≤ j ∧ j < 52) : GC b n j (dEither (tkA b n) (nxA b n) (vlA b n) (DR (tkA b n) (nxA b n) (vlA b n) 8) 0) (f_X0_readEither N (RKd N 8) (0 : Int32)) := by
  have h := rec_g (N := N) hN hn hb hj 9 0 0 (by omega) (by omega)
  exact h
