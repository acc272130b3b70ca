/-! L2: the two readers read the same: not, and, or; all -/
theorem notK {tk nx vl : Nat → Nat} {n x : Nat} {Rk : Nat → Nat → Nat → Rs} (hn : n ≤ 160) (P : PG tk nx vl n) (h1 : x < 5 → GN tk nx vl n (x + 1) (Rk 1 (x + 1))) (ho : GO tk nx vl n x (dOne tk nx vl Rk x)) : GN tk nx vl n x (dNot tk nx vl Rk x) := by
  intro a h e ha hu hx hx5
  obtain ⟨p1, p2, -⟩ := P a ha
  unfold dNot
  by_cases t : tk a = 205
  · rw [if_pos t, kk_205 P ha t]
    by_cases q : x < 5
    · rw [if_pos q, if_neg (show ¬ x = 5 by omega)]
      obtain ⟨⟨g1, g2, g3⟩, g4⟩ := h1 q (nx a) (13 :: h) e p1 (uwE_hd (by decide)) (by show x + 1 = 1 + cO h; omega) (by omega)
      have hap := p2 (by omega)
      unfold tailR
      cases hr : (Rk 1 (x + 1) (nx a)).1 with
      | false =>
        rw [if_neg Bool.false_ne_true]
        exact ⟨⟨g1, fun _ => g2 hr, fun z => (by cases z)⟩, fun z => (by cases z)⟩
      | true =>
        obtain ⟨g5, g6, g7⟩ := g3 hr
        have g4' := g4 hr
        rw [if_pos rfl]
        refine ⟨⟨g1, fun z => (by cases z), fun _ => ⟨g5.u (Or.inr rfl), g6, fun y => ⟨(g7 y).1, ?_⟩⟩⟩, fun _ => Nat.lt_trans hap g4'⟩
        rw [(g7 y).2, uwH_c (show ¬ rkS 13 < 3 by decide), uwX_c (show ¬ rkS 13 < 3 by decide), uwE_c (show ¬ rkS 13 < 3 by decide), show x + 1 - isO 13 = x from rfl]
        dsimp only
        rw [enc_a, List.append_assoc (enc (Rk 1 (x + 1) (nx a)).2.2)]
        rfl
    · rw [if_neg q, if_pos (show x = 5 by omega)]
      exact ⟨⟨ha, fun _ => rfl, fun z => (by cases z)⟩, fun z => (by cases z)⟩
  · rw [if_neg t]
    obtain ⟨⟨g1, g2, g3⟩, g4⟩ := cmpK hn P ho a true h e ha (Or.inl t) hu hx hx5
    refine ⟨⟨g1, g2, fun z => ?_⟩, g4⟩
    obtain ⟨g5, g6, g7⟩ := g3 z
    refine ⟨g5, g6, fun y => ⟨(g7 y).1, ?_⟩⟩
    have l3 : lvT (tk (dCmp tk nx vl Rk x a).2.1) ≤ 3 := Nat.le_trans (g7 y).1 (by decide)
    rw [(g7 y).2, flush P g1 l3]
    dsimp only
    rw [List.append_assoc]
theorem GN.gk {tk nx vl : Nat → Nat} {n x : Nat} {g : Nat → Rs} (hg : GN tk nx vl n x g) : GK tk nx vl n 3 true Ch QN x g := by
  intro a m h e ha hC hu hx hx5
  have hm : m = true := hC
  subst hm
  obtain ⟨⟨g1, g2, g3⟩, g4⟩ := hg a h e ha (uwE_mn (by decide) hu) hx hx5
  obtain ⟨u1, u2⟩ := uwE_0 hu
  refine ⟨⟨g1, g2, fun z => ?_⟩, g4⟩
  obtain ⟨g5, g6, g7⟩ := g3 z
  refine ⟨g5, g6, fun y => ⟨(g7 y).1, ?_⟩⟩
  rw [(g7 y).2, u1, u2, hu]
  dsimp only
  rw [List.append_nil]
theorem bothK {tk nx vl : Nat → Nat} {n x : Nat} {Rk : Nat → Nat → Nat → Rs} (hn : n ≤ 160) (P : PG tk nx vl n) (h : GN tk nx vl n x (dNot tk nx vl Rk x)) : GK tk nx vl n 2 true Ch (fun t => QN t ∧ oB t = none) x (dBoth tk nx vl Rk x) := by
  refine lvl_k (Q := QN) hn P (fun t o ho => ?_) (fun t ht => ht) h.gk
  unfold oB at ho
  by_cases q : t = 204
  · subst q
    cases ho
    exact ⟨12, rfl, rfl, rfl, rfl, rfl, by decide, by decide, by decide, fun u => rfl⟩
  · rw [if_neg q] at ho
    cases ho
theorem eitherK {tk nx vl : Nat → Nat} {n x : Nat} {Rk : Nat → Nat → Nat → Rs} (hn : n ≤ 160) (P : PG tk nx vl n) (h : GN tk nx vl n x (dNot tk nx vl Rk x)) : GK tk nx vl n 1 true Ch QE x (dEither tk nx vl Rk x) := by
  refine lvl_k (Q := fun t => QN t ∧ oB t = none) hn P (fun t o ho => ?_) (fun t ht => ?_) (bothK hn P h)
  · unfold oE at ho
    by_cases q : t = 203
    · subst q
      cases ho
      exact ⟨11, rfl, rfl, rfl, rfl, rfl, by decide, by decide, by decide, fun u => rfl⟩
    · rw [if_neg q] at ho
      cases ho
  · obtain ⟨h1, h2⟩ := ht
    unfold oB at h2
    unfold QN at h1
    unfold lvT at h1 ⊢
    by_cases q : t = 204
    · rw [if_pos q] at h2
      cases h2
    · rw [if_neg q] at h1 ⊢
      by_cases q1 : t = 59 ∨ t = 41 ∨ t = 203
      · rw [if_pos q1]
        decide
      · rw [if_neg q1] at h1 ⊢
        by_cases q2 : t = 60 ∨ t = 61 ∨ t = 43 ∨ t = 45
        · rw [if_pos q2] at h1
          omega
        · rw [if_neg q2] at h1 ⊢
          by_cases q3 : t = 42
          · rw [if_pos q3] at h1
            omega
          · rw [if_neg q3]
            decide
theorem allK {tk nx vl : Nat → Nat} {n : Nat} (hn : n ≤ 160) (P : PG tk nx vl n) : ∀ (d x : Nat), x ≤ 5 → 6 ≤ x + d → GO tk nx vl n x (DR tk nx vl d 2 x) ∧ GN tk nx vl n x (DR tk nx vl d 1 x) ∧ GK tk nx vl n 1 true Ch QE x (DR tk nx vl d 0 x) := by
  intro d
  induction d with
  | zero => intro x h1 h2; omega
  | succ d ih =>
    intro x h1 h2
    rw [show DR tk nx vl (d + 1) 2 x = dOne tk nx vl (DR tk nx vl d) x from funext fun a => rfl, show DR tk nx vl (d + 1) 1 x = dNot tk nx vl (DR tk nx vl d) x from funext fun a => rfl, show DR tk nx vl (d + 1) 0 x = dEither tk nx vl (DR tk nx vl d) x from funext fun a => rfl]
    have a1 := oneK (x := x) (Rk := DR tk nx vl d) P (fun q => (ih (x + 1) (by omega) (by omega)).1) (fun q => (ih (x + 1) (by omega) (by omega)).2.2)
    have a2 := notK hn P (fun q => (ih (x + 1) (by omega) (by omega)).2.1) a1
    exact ⟨a1, a2, eitherK hn P a2⟩
/-- one part, by the class' way -/
def dPart (tk nx vl : Nat → Nat) (a : Nat) : Rs := dEither tk nx vl (DR tk nx vl 8) 0 a
theorem qe_no {t : Nat} (h : okT t) (q : QE t) (b : ¬ (t = 60 ∨ t = 61)) : t = 59 ∨ t = 41 ∨ (t ≠ 59 ∧ t ≠ 41 ∧ sgO t = none) := by
  have := okT_ls h
  unfold QE QN oB oE lvT at q
  rcases this with rfl | rfl | rfl | rfl | rfl | rfl | rfl | rfl | rfl | rfl | rfl | rfl | rfl | rfl | rfl | rfl | rfl | rfl <;> first | exact Or.inl rfl | exact Or.inr (Or.inl rfl) | exact Or.inr (Or.inr ⟨by decide, by decide, rfl⟩) | (exfalso; revert q; decide) | (exfalso; omega)
theorem part_k {tk nx vl : Nat → Nat} {n a : Nat} (hn : n ≤ 160) (P : PG tk nx vl n) (ha : a ≤ n) (e : List Nat) : (dPart tk nx vl a).2.1 ≤ n ∧ kk tk nx vl n true true a [] 0 e = (if (dPart tk nx vl a).1 = true ∧ tk (dPart tk nx vl a).2.1 = 59 then (true, (dPart tk nx vl a).2.1, e ++ enc (dPart tk nx vl a).2.2) else (false, (dPart tk nx vl a).2.1, [])) ∧ ((dPart tk nx vl a).1 = true → W1 (dPart tk nx vl a).2.2 ∧ a < (dPart tk nx vl a).2.1) := by
  obtain ⟨⟨g1, g2, g3⟩, g4⟩ := (allK hn P 9 0 (by decide) (by decide)).2.2 a true [] e ha rfl rfl rfl (by decide)
  rw [show DR tk nx vl 9 0 0 = dPart tk nx vl from funext fun a => rfl] at g1 g2 g3 g4
  refine ⟨g1, ?_, fun z => ⟨(g3 z).1, g4 z⟩⟩
  cases hr : (dPart tk nx vl a).1 with
  | false => rw [g2 hr, if_neg (fun z => Bool.false_ne_true z.1)]
  | true =>
    obtain ⟨g5, g6, g7⟩ := g3 hr
    by_cases q : bdT true (tk (dPart tk nx vl a).2.1)
    · rw [g6 q, if_neg (fun z => by have := q.2; omega)]
    · obtain ⟨g7, g8⟩ := g7 q
      rw [g8]
      rcases qe_no (P _ g1).2.2.1 g7 (fun z => q ⟨rfl, z⟩) with t | t | ⟨t1, t2, t3⟩
      · rw [if_pos ⟨rfl, t⟩, kF_59 P g1 t, if_pos (show uwH 1 [] = [] from rfl)]
        show (true, _, e ++ enc _ ++ []) = _
        rw [List.append_nil]
      · rw [if_neg (fun z => by have := z.2; omega), kF_41 P g1 t]
        rfl
      · rw [if_neg (fun z => t1 z.2), kF_no P g1 t1 t2 t3]
theorem nuN_lt {b : Nat → Nat} {s : Nat} : ∀ k, (∀ i, s ≤ i → i < s + k → isD (b i) = true) → nuN b s k < 10 ^ k
  | 0, _ => show 0 < 1 from Nat.one_pos
  | k + 1, h => by
    have h1 := nuN_lt k (fun i h1 h2 => h i h1 (by omega))
    have h2 : 48 ≤ b (s + k) ∧ b (s + k) ≤ 57 := of_decide_eq_true (h (s + k) (by omega) (by omega))
    show 10 * nuN b s k + (b (s + k) - 48) < _
    rw [Nat.pow_succ]
    omega
theorem pg_ab (b : Nat → Nat) (n : Nat) : PG (tkA b n) (nxA b n) (vlA b n) n := by
  intro a ha
  obtain ⟨h1, h2, h3⟩ := nxA_bd (b := b) ha
  obtain ⟨s1, s2⟩ := stA_bd (b := b) ha
  refine ⟨h2, h3, tkA_ok b n a, fun t => ?_, fun t => ?_⟩
  · unfold vlA vlS
    unfold tkA tkS at t
    by_cases q : stA b n a < n
    · rw [if_pos q] at t
      by_cases q1 : isL (b (stA b n a)) = true
      · rw [if_pos q1] at t
        dsimp only at t
        (repeat' split at t) <;> omega
      · rw [if_neg q1] at t
        by_cases q2 : isD (b (stA b n a)) = true
        · rw [if_pos q2] at t
          by_cases q3 : rn isD b n (stA b n a) - stA b n a ≤ 4
          · rw [if_neg q1]
            obtain ⟨r1, r2, r3⟩ := rn_bd (p := isD) (b := b) (n := n) (n - stA b n a) (stA b n a) (by omega)
            have := nuN_lt (b := b) (s := stA b n a) (rn isD b n (stA b n a) - stA b n a) (fun i i1 i2 => r3 i i1 (by omega))
            have p4 : 10 ^ (rn isD b n (stA b n a) - stA b n a) ≤ 10 ^ 4 := Nat.pow_le_pow_right (by decide) q3
            exact Nat.lt_of_lt_of_le this p4
          · rw [if_neg q3] at t
            omega
        · rw [if_neg q2] at t
          by_cases q3 : isS (b (stA b n a)) = true
          · rw [if_pos q3] at t
            have := isS_c q3
            omega
          · rw [if_neg q3] at t
            omega
    · rw [if_neg q] at t
      omega
  · unfold vlA vlS
    unfold tkA tkS at t
    by_cases q : stA b n a < n
    · rw [if_pos q] at t
      by_cases q1 : isL (b (stA b n a)) = true
      · rw [if_pos q1] at t ⊢
        dsimp only at t
        (repeat' split at t) <;> omega
      · rw [if_neg q1] at t
        by_cases q2 : isD (b (stA b n a)) = true
        · rw [if_pos q2] at t
          (repeat' split at t) <;> omega
        · rw [if_neg q2] at t
          by_cases q3 : isS (b (stA b n a)) = true
          · rw [if_pos q3] at t
            have := isS_c q3
            omega
          · rw [if_neg q3] at t
            omega
    · rw [if_neg q] at t
      omega
theorem nz_l {r : Bool × Nat × List Nat} {c : Prop} [Decidable c] {p : Nat} {o : List Nat} (h : nz r = (if c then (true, p, o) else (false, p, []))) : r.1 = decide c ∧ r.2.1 = p ∧ (c → r.2.2 = o) := by
  unfold nz at h
  by_cases q : c
  · rw [if_pos q] at h
    by_cases q2 : r.1 = true
    · rw [if_pos q2] at h
      rw [h, decide_eq_true q]
      exact ⟨rfl, rfl, fun _ => rfl⟩
    · rw [if_neg q2] at h
      cases h
  · rw [if_neg q] at h
    by_cases q2 : r.1 = true
    · rw [if_pos q2] at h
      rw [h] at q2
      cases q2
    · rw [if_neg q2] at h
      rw [Bool.not_eq_true] at q2
      rw [q2, decide_eq_false q]
      exact ⟨rfl, congrArg (fun z => z.2.1) h, fun z => absurd z q⟩
/-- the reference reads a part -/
theorem part_r {N n i a : Nat} {b : Nat → Nat} {R : Mem} (hN : 200 < N) (hn : n ≤ 160) (hi : i < 6) (hb : ∀ k, k < n → b k < 256) (ha : a ≤ n) (hT : Tr R b n) (h22 : FI R 100 22 = nI a) (h12 : FI R 100 12 = nI i) (o : List Nat) (ho : o.length ≤ a) (h30 : FI R 100 30 = nI o.length) (hO : ∀ k, k < o.length → AI R 107 (200 * i + k) = nI (o.getD k 0)) {d : Rs} (hd : dPart (tkA b n) (nxA b n) (vlA b n) a = d) :
    ∃ R', f_X6_eRead N R = some (decide (d.1 = true ∧ tkA b n d.2.1 = 59), R') ∧ Kv i R R' ∧ FI R' 100 23 = nI (stA b n d.2.1) ∧ (d.1 = true ∧ tkA b n d.2.1 = 59 → FI R' 100 22 = nI (nxA b n d.2.1) ∧ FI R' 100 30 = nI (o ++ enc d.2.2).length ∧ (∀ k, k < (o ++ enc d.2.2).length → AI R' 107 (200 * i + k) = nI ((o ++ enc d.2.2).getD k 0)) ∧ (o ++ enc d.2.2).length ≤ d.2.1 ∧ d.2.1 ≤ n) := by
  subst hd
  obtain ⟨k1, k2, k3⟩ := part_k hn (pg_ab b n) ha o
  obtain ⟨l1, l2, l3⟩ := nz_l (r := kR (tkA b n) (nxA b n) (vlA b n) (n + 1 - a) true true a [] 0 o) k2
  have hS : HS i (sFI (sFI R 100 28 (0 : Int32)) 100 29 (0 : Int32)) [] 0 o := ⟨(FI_n (by decide)).trans ((FI_n (by decide)).trans h12), (FI_n (by decide)).trans FI_s, fun k hk => absurd hk (Nat.not_lt_zero k), FI_s, (FI_n (by decide)).trans ((FI_n (by decide)).trans h30), hO⟩
  have ku : Ku i R (sFI (sFI R 100 28 (0 : Int32)) 100 29 (0 : Int32)) := (Ku.fi i R _ (by omega)).tr (Ku.fi i _ _ (by omega))
  obtain ⟨R', a1, a2, a3, a4, a5⟩ := eRead_r (N := N) hN hn hi hb (n + 1 - a) N a true true [] 0 o (sFI (sFI R 100 28 (0 : Int32)) 100 29 (0 : Int32)) (by omega) (by omega) ha rfl (by decide) (fun s hs => absurd hs List.not_mem_nil) (by show o.length + 0 ≤ a; omega) hS (hT.ku ku) ((ku.1 22 (by omega)).trans h22)
  rw [l1] at a1 a5
  rw [l2] at a4 a5
  refine ⟨R', a1, (Kv.ku ku).tr a2, a4, fun q => ?_⟩
  obtain ⟨c1, c2, c3, c4, c5⟩ := a5 (decide_eq_true q)
  rw [l3 q] at c2 c3 c4
  exact ⟨c1, c2, c3, c4, k1⟩
