/-! L2: lowest terms, share -/
theorem lcmp0 {b : Nat} (h : b < 2 ^ 31) : (lg_cmp (lN b) (0 : Int64) = 0) = (b = 0) := by
  rw [lg_cmp_0]
  exact propext (pk_lEQ (a := b) (b := 0) (by omega) (by decide))
theorem lcmpP {b : Nat} (h0 : 0 < b) (h : b < 2 ^ 31) : ¬ lg_cmp (lN b) (0 : Int64) ≤ 0 := by
  have h1 : (0 : Int64) < lN b := (pk_lLT (a := 0) (b := b) (by decide) (by omega)).mpr h0
  have h2 : ¬ lN b = (0 : Int64) := fun z => by
    have := (pk_lEQ (a := b) (b := 0) (by omega) (by decide)).mp z
    omega
  unfold lg_cmp
  simp [h1, h2]
theorem gcdS {a b : Nat} : Nat.gcd b a = Nat.gcd (a % b) b := Nat.gcd_rec b a
theorem low_c {N : Nat} {M : Mem} {y0 y2 : Int64} {x4 : Int32} : ∀ (m fu i a b : Nat), b ≤ m → m < fu → i + m ≤ 64 → a < 2 ^ 31 → b_X5_lowest_9 N M y0 y2 x4 fu (lN a) (lN b) (nI i) = b_X5_lowest_44 N M y0 y2 x4 (lN (Nat.gcd b a)) := by
  intro m
  induction m with
  | zero =>
    intro fu i a b hb hf hi ha
    obtain ⟨fu, rfl⟩ : ∃ z, fu = z + 1 := ⟨fu - 1, by omega⟩
    have : b = 0 := by omega
    subst this
    rw [b_X5_lowest_9, Nat.gcd_zero_left, if_pos (show lg_cmp (lN 0) (0 : Int64) ≤ 0 by decide), ite_self]
  | succ m ih =>
    intro fu i a b hb hf hi ha
    obtain ⟨fu, rfl⟩ : ∃ z, fu = z + 1 := ⟨fu - 1, by omega⟩
    by_cases h0 : b = 0
    · subst h0
      rw [b_X5_lowest_9, Nat.gcd_zero_left, if_pos (show lg_cmp (lN 0) (0 : Int64) ≤ 0 by decide), ite_self]
    · have hn : ¬ lN b = (0 : Int64) := fun z => by
        have := (pk_lEQ (a := b) (b := 0) (by omega) (by decide)).mp z
        omega
      rw [b_X5_lowest_9, if_neg (show ¬ (64 : Int32) ≤ nI i from nI_ge (b := 64) (by omega) (by decide)), if_neg (lcmpP (by omega) (by omega)), gd_t (decide_eq_true hn), pk_lRem (by omega) (by omega) (by omega), nI_1, gcdS]
      have := Nat.mod_lt a (show 0 < b by omega)
      exact ih fu (i + 1) b (a % b) (by omega) (by omega) (by omega) (by omega)
theorem low_r {N : Nat} {R : Mem} {y0 y2 : Int64} {x4 : Int32} : ∀ (m fu a b : Nat), b ≤ m → m < fu → a < 2 ^ 31 → b < 2 ^ 31 → b_X6_lowest_16 N R y0 y2 x4 fu (lN a) (lN b) = (if x4 = 0 then b_X6_lowest_51 N R y0 y2 x4 (lN (Nat.gcd b a)) y0 else b_X6_lowest_51 N R y0 y2 x4 (lN (Nat.gcd b a)) y2) := by
  intro m
  induction m with
  | zero =>
    intro fu a b hb hf ha hb2
    obtain ⟨fu, rfl⟩ : ∃ z, fu = z + 1 := ⟨fu - 1, by omega⟩
    have : b = 0 := by omega
    subst this
    rw [b_X6_lowest_16, Nat.gcd_zero_left, if_pos (show lg_cmp (lN 0) (0 : Int64) = 0 by decide)]
  | succ m ih =>
    intro fu a b hb hf ha hb2
    obtain ⟨fu, rfl⟩ : ∃ z, fu = z + 1 := ⟨fu - 1, by omega⟩
    by_cases h0 : b = 0
    · subst h0
      rw [b_X6_lowest_16, Nat.gcd_zero_left, if_pos (show lg_cmp (lN 0) (0 : Int64) = 0 by decide)]
    · have hn : ¬ lN b = (0 : Int64) := fun z => by
        have := (pk_lEQ (a := b) (b := 0) (by omega) (by decide)).mp z
        omega
      rw [b_X6_lowest_16, if_neg (fun z => h0 ((lcmp0 hb2).mp z)), gd_t (decide_eq_true hn), pk_lRem (by omega) (by omega) (by omega), gcdS]
      have := Nat.mod_lt a (show 0 < b by omega)
      exact ih fu b (a % b) (by omega) (by omega) (by omega) (by omega)
theorem lowest_b {N a b p : Nat} {M R : Mem} (hN : 160 < N) (ha : a ≤ 64) (hb0 : 0 < b) (hb : b ≤ 64) (hp : p ≤ 1) : ∃ y, f_X5_lowest N (lN a) (lN b) (nI p) M = some y ∧ f_X6_lowest N (lN a) (lN b) (nI p) R = some y := by
  have hg := Nat.gcd_pos_of_pos_left a hb0
  have hgl := Nat.gcd_le_left a hb0
  have hn : ¬ lN (Nat.gcd b a) = (0 : Int64) := fun z => by
    have := (pk_lEQ (a := Nat.gcd b a) (b := 0) (by omega) (by decide)).mp z
    omega
  have h1 : ¬ lN (Nat.gcd b a) < (1 : Int64) := fun z => by
    have := (pk_lLT (a := Nat.gcd b a) (b := 1) (by omega) (by decide)).mp z
    omega
  have ec : f_X5_lowest N (lN a) (lN b) (nI p) M = some (if p = 0 then lN (a / Nat.gcd b a) else lN (b / Nat.gcd b a)) := by
    unfold f_X5_lowest b_X5_lowest_0
    rw [show ((0 : Int32)) = nI 0 from rfl, low_c 64 N 0 a b hb (by omega) (by omega) (by omega)]
    unfold b_X5_lowest_44
    rw [if_neg h1, gd_t (decide_eq_true hn), gd_t (decide_eq_true hn), pk_lDiv (by omega) (by omega) (by omega), pk_lDiv (by omega) (by omega) (by omega)]
    by_cases e : p = 0
    · rw [if_pos (show nI p = 0 by rw [e]; rfl), if_pos e]
    · rw [if_neg (show ¬ nI p = 0 from fun z => e ((nI_eq (b := 0) (by omega) (by decide)).mp z)), if_neg e]
  refine ⟨_, ec, ?_⟩
  unfold f_X6_lowest b_X6_lowest_0
  by_cases a0 : a = 0
  · subst a0
    rw [if_pos (show lg_cmp (lN 0) (0 : Int64) = 0 by decide), Nat.gcd_zero_right, Nat.zero_div, Nat.div_self hb0, nI_l (by omega)]
    have e : p = 0 ∨ p = 1 := by omega
    rcases e with rfl | rfl <;> rfl
  · rw [if_neg (fun z => a0 ((lcmp0 (by omega)).mp z)), low_r 64 N a b hb (by omega) (by omega) (by omega)]
    unfold b_X6_lowest_51
    rw [gd_t (decide_eq_true hn), gd_t (decide_eq_true hn), pk_lDiv (by omega) (by omega) (by omega), pk_lDiv (by omega) (by omega) (by omega)]
    by_cases e : p = 0
    · rw [if_pos (show nI p = 0 by rw [e]; rfl), if_pos e]
    · rw [if_neg (show ¬ nI p = 0 from fun z => e ((nI_eq (b := 0) (by omega) (by decide)).mp z)), if_neg e]
theorem bit1_b (x : Int32) : (∃ p : Nat, p ≤ 1 ∧ x = nI p ∧ (x = 0 ∨ x = 1)) ∨ (¬ x = 0 ∧ ¬ x = 1 ∧ ∀ R, f_X6_in x 0 1 R = some false) := by
  rcases bit_b x with rfl | rfl | ⟨z0, z1, z2⟩
  · exact Or.inl ⟨0, by omega, rfl, Or.inl rfl⟩
  · exact Or.inl ⟨1, by omega, rfl, Or.inr rfl⟩
  · exact Or.inr ⟨z0, z1, fun R => by rw [in_r, z2]⟩
/-- what the class does in its two like branches -/
theorem two_br {α : Type} {x : Int32} {y z : α} (h : x = 0 ∨ x = 1) : (if x = 0 then y else if x = (1 : Int32) then y else z) = y := by
  rcases h with rfl | rfl
  · rw [if_pos rfl]
  · rw [if_neg (by decide), if_pos rfl]
theorem two_no {α : Type} {x : Int32} {y z : α} (h0 : ¬ x = 0) (h1 : ¬ x = 1) : (if x = 0 then y else if x = (1 : Int32) then y else z) = z := by
  rw [if_neg h0, if_neg h1]
theorem st_share {N : Nat} {M R : Mem} (hN : 160 < N) (x1 x2 : Int32) (h : Sim M R) : ∃ r M' R', f_X5_share N x1 x2 M = some (r, M') ∧ f_X6_share N x1 x2 R = some (r, R') ∧ Sim M' R' := by
  obtain ⟨s, hw, hc, hr⟩ := h
  have hc6 : dC (aV s) ≤ 6 := hw.1.1
  have bad : Sim M R := ⟨s, hw, hc, hr⟩
  unfold f_X5_share b_X5_share_0 f_X6_share b_X6_share_0
  rw [in_r, bind_some_]
  by_cases b1 : x1 < 0
  · rw [if_pos b1, decide_eq_false (fun q => q.1 b1), if_neg Bool.false_ne_true]
    exact ⟨_, M, R, rfl, rfl, bad⟩
  by_cases b2 : (40 : Int32) < x1
  · rw [if_neg b1, if_pos b2, decide_eq_false (fun q => q.2 b2), if_neg Bool.false_ne_true]
    exact ⟨_, M, R, rfl, rfl, bad⟩
  rw [if_neg b1, if_neg b2, decide_eq_true ⟨b1, b2⟩, if_pos rfl]
  rcases bit1_b x2 with ⟨p, hp, rfl, hz⟩ | ⟨z0, z1, z2⟩
  rotate_left
  · rw [two_no z0 z1, z2, bind_some_, if_neg Bool.false_ne_true]
    exact ⟨_, M, R, rfl, rfl, bad⟩
  rw [two_br hz, show f_X6_in (nI p) 0 1 R = some true from in_yes (n := 1) (by decide) hp R, bind_some_, if_pos rfl]
  obtain ⟨n, hn0, rfl⟩ := nn_ex b1
  have hn : n ≤ 40 := by
    rw [lk_40, ltI (by decide) hn0] at b2
    omega
  obtain ⟨R1, R2, c1, c2, c3, c4, c5, c6, c7⟩ := think_r (N := N) (n := n) hN (by omega) hw hr
  obtain ⟨R4, d1, d2, d3, d4⟩ := c7 R2 (Mt.rf _) rfl
  have hr4 := hr.rg hw d2
  have hC4 : FI R4 100 0 = nI (dC (aV s)) := hr4.1.2.2.2.1
  have hT4 : ∀ q, q < dC (aV s) → AJ R4 119 q = bitL (kC (dS (aV s) q)) ||| (itN (aT s (dL (aV s))) (dW (aV s)) n (dN (aV s)) (dS (aV s) q)).2 := fun q hq => by
    rw [d4]
    exact c6 q hq
  obtain ⟨M', t1, t2⟩ := trail_c (N := N) (n := n) (e := dC (aV s)) (x1 := 0) hN (by omega) hw (Nat.le_refl _) (dC (aV s)) N 0 0 M (by omega) (by omega) hc
  have t1' : b_X5_trailOf_6 N 0 (nI (dC (aV s))) (nI n) N 0 0 M = _ := t1
  have t3 : b_X6_tracked_18 N (nI n) (-1) N 0 0 R4 = _ := trk_all (T := fun q => bitL (kC (dS (aV s) q)) ||| (itN (aT s (dL (aV s))) (dW (aV s)) n (dN (aV s)) (dS (aV s) q)).2) hc6 hC4 hT4 (dC (aV s)) N 0 0 (by omega) (by omega)
  unfold b_X5_share_23 f_X6_tracked b_X6_tracked_0 f_X5_trailOf b_X5_trailOf_0
  rw [c1, bind_some_, c2, bind_some_, d1, bind_some_, show FI M 1 3 = _ from hc.1.2.2.2.1, t1', bd2_s, t3, bd2_s, bitCount_c, bind_some_, bits_r hN, bind_some_]
  generalize orF (fun q => bitL (kC (dS (aV s) q)) ||| (itN (aT s (dL (aV s))) (dW (aV s)) n (dN (aV s)) (dS (aV s) q)).2) 0 0 (dC (aV s)) = W
  have hW := popL_le W
  obtain ⟨y, g1, g2⟩ := lowest_b (N := N) (M := M') (R := R4) (a := popL W) (b := 64) hN hW (by decide) (by decide) hp
  rw [nI_l (by omega), show (64 : Int64) = lN 64 from rfl, g1, bind_some_, g2, bind_some_]
  exact ⟨_, _, _, rfl, rfl, s, hw, t2, hr4⟩
