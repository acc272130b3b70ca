/-! L2: track -/
theorem trk_all {N cnt : Nat} {x1 : Int32} {R : Mem} {T : Nat → Int64} (hc : cnt ≤ 6) (hC : FI R 100 0 = nI cnt) (hT : ∀ q, q < cnt → AJ R 119 q = T q) : ∀ (m fu p : Nat) (acc : Int64), m < fu → p + m = cnt → b_X6_tracked_18 N x1 (-1) fu acc (nI p) R = some (orF T acc p m, R) := by
  intro m
  induction m with
  | zero =>
    intro fu p acc hf hp
    obtain ⟨fu, rfl⟩ : ∃ z, fu = z + 1 := ⟨fu - 1, by omega⟩
    rw [b_X6_tracked_18, hC, if_pos (nI_le (by omega) (by omega))]
    rfl
  | succ m ih =>
    intro fu p acc hf hp
    obtain ⟨fu, rfl⟩ : ∃ z, fu = z + 1 := ⟨fu - 1, by omega⟩
    rw [b_X6_tracked_18, hC, if_neg (nI_ge (by omega) (by omega)), if_pos rfl]
    unfold b_X6_tracked_39 b_X6_tracked_50
    rw [gdn (n := len 119) (show p < 6 by omega) (by decide), nI_clamp (by omega), hT p (by omega), nI_1]
    exact ih fu (p + 1) _ (by omega) (by omega)
theorem trk_one {N cnt k : Nat} {x1 : Int32} {R : Mem} {T : Nat → Int64} (hc : cnt ≤ 6) (hk : k < cnt) (hC : FI R 100 0 = nI cnt) (hT : ∀ q, q < cnt → AJ R 119 q = T q) : ∀ (m fu p : Nat) (acc : Int64), m < fu → p + m = cnt → b_X6_tracked_18 N x1 (nI k) fu acc (nI p) R = some (if p ≤ k then acc ||| T k else acc, R) := by
  intro m
  induction m with
  | zero =>
    intro fu p acc hf hp
    obtain ⟨fu, rfl⟩ : ∃ z, fu = z + 1 := ⟨fu - 1, by omega⟩
    rw [b_X6_tracked_18, hC, if_pos (nI_le (by omega) (by omega)), if_neg (by omega)]
  | succ m ih =>
    intro fu p acc hf hp
    obtain ⟨fu, rfl⟩ : ∃ z, fu = z + 1 := ⟨fu - 1, by omega⟩
    rw [b_X6_tracked_18, hC, if_neg (nI_ge (by omega) (by omega)), if_neg (nI_m1 k (by omega))]
    by_cases e : k = p
    · subst e
      rw [if_pos rfl]
      unfold b_X6_tracked_39 b_X6_tracked_50
      rw [gdn (n := len 119) (show k < 6 by omega) (by decide), nI_clamp (by omega), hT k hk, nI_1, ih fu (k + 1) _ (by omega) (by omega), if_neg (by omega), if_pos (Nat.le_refl k)]
    · rw [if_neg (fun z => e ((nI_eq (by omega) (by omega)).mp z))]
      unfold b_X6_tracked_50
      rw [Int64.or_zero, nI_1, ih fu (p + 1) _ (by omega) (by omega)]
      by_cases q : p ≤ k
      · rw [if_pos q, if_pos (by omega)]
      · rw [if_neg q, if_neg (by omega)]
theorem m1_of {x : Int32} (h1 : ¬ x < -1) (h2 : x < 0) : x = -1 := by
  rw [Int32.lt_iff_toInt_lt] at h1 h2
  have a1 : (-1 : Int32).toInt = -1 := by decide
  have a2 : (0 : Int32).toInt = 0 := by decide
  exact Int32.toInt_inj.mp (by omega)
theorem st_track {N : Nat} {M R : Mem} (hN : 160 < N) (x1 x2 : Int32) (h : Sim M R) : ∃ r M' R', f_X5_track N x1 x2 M = some (r, M') ∧ f_X6_track N x1 x2 R = some (r, R') ∧ Sim M' R' := by
  obtain ⟨s, hw, hc, hr⟩ := h
  have hc6 : dC (aV s) ≤ 6 := hw.1.1
  have kC0 : FI M 1 3 = nI (dC (aV s)) := hc.1.2.2.2.1
  have kR0 : FI R 100 0 = nI (dC (aV s)) := hr.1.2.2.2.1
  have kw : FJ M 1 0 = dW (aV s) := hc.1.1
  have kr : FJ R 100 6 = dW (aV s) := hr.1.1
  unfold f_X5_track b_X5_track_0 f_X6_track b_X6_track_0
  by_cases z : x2 = -2
  · rw [if_pos z, if_pos z, kw, kr]
    exact ⟨_, M, R, rfl, rfl, s, hw, hc, hr⟩
  rw [if_neg z, if_neg z, in_r, bind_some_]
  by_cases b1 : x1 < 0
  · rw [if_pos b1, decide_eq_false (fun q => q.1 b1), if_neg Bool.false_ne_true]
    exact ⟨_, M, R, rfl, rfl, s, hw, hc, hr⟩
  by_cases b2 : (40 : Int32) < x1
  · rw [if_neg b1, if_pos b2, decide_eq_false (fun q => q.2 b2), if_neg Bool.false_ne_true]
    exact ⟨_, M, R, rfl, rfl, s, hw, hc, hr⟩
  rw [if_neg b1, if_neg b2, decide_eq_true ⟨b1, b2⟩, if_pos rfl, in_r, bind_some_]
  by_cases b3 : x2 < -1
  · rw [if_pos b3, decide_eq_false (fun q => q.1 b3), if_neg Bool.false_ne_true]
    exact ⟨_, M, R, rfl, rfl, s, hw, hc, hr⟩
  obtain ⟨n, hn0, rfl⟩ := nn_ex b1
  have hn : n ≤ 40 := by
    rw [lk_40, ltI (by decide) hn0] at b2
    omega
  obtain ⟨R1, R2, c1, c2, c3, c4, c5, c6, c7⟩ := think_r (N := N) (n := n) hN (by omega) hw hr
  obtain ⟨R4, d1, d2, d3, d4⟩ := c7 R2 (Mt.rf _) rfl
  have hr4 := hr.rg hw d2
  have hC4 : FI R4 100 0 = nI (dC (aV s)) := hr4.1.2.2.2.1
  have hT4 : ∀ q, q < dC (aV s) → AJ R4 119 q = bitL (kC (dS (aV s) q)) ||| (itN (aT s (dL (aV s))) (dW (aV s)) n (dN (aV s)) (dS (aV s) q)).2 := fun q hq => by
    rw [d4]
    exact c6 q hq
  rw [if_neg b3, kC0, kR0]
  unfold f_X6_tracked b_X6_tracked_0 f_X5_trailOf b_X5_trailOf_0
  rw [c1, bind_some_, c2, bind_some_, d1, bind_some_]
  by_cases b4 : x2 < 0
  · have e := m1_of b3 b4
    subst e
    obtain ⟨M', t1, t2⟩ := trail_c (N := N) (n := n) (e := dC (aV s)) (x1 := 0) hN (by omega) hw (Nat.le_refl _) (dC (aV s)) N 0 0 M (by omega) (by omega) hc
    have t1' : b_X5_trailOf_6 N 0 (nI (dC (aV s))) (nI n) N 0 0 M = _ := t1
    have t3 : b_X6_tracked_18 N (nI n) (-1) N 0 0 R4 = _ := trk_all (T := fun q => bitL (kC (dS (aV s) q)) ||| (itN (aT s (dL (aV s))) (dW (aV s)) n (dN (aV s)) (dS (aV s) q)).2) hc6 hC4 hT4 (dC (aV s)) N 0 0 (by omega) (by omega)
    have hlt : (-1 : Int32) < nI (dC (aV s)) := by
      rw [Int32.lt_iff_toInt_lt, nI_toInt (by omega)]
      have a1 : (-1 : Int32).toInt = -1 := by decide
      omega
    have hge : ¬ (nI (dC (aV s)) - 1 : Int32) < -1 := by
      rw [Int32.lt_iff_toInt_lt, lk_1, pk_sub_toInt (by omega) (by decide)]
      have a1 : (-nI 1 : Int32).toInt = -1 := by decide
      omega
    rw [if_pos hlt, if_pos rfl, t1', bd2_s, decide_eq_true ⟨b3, hge⟩, if_pos rfl, t3, bd2_s]
    exact ⟨_, M', R4, rfl, rfl, s, hw, t2, hr4⟩
  obtain ⟨k, hk, rfl⟩ := nn_ex b4
  by_cases b5 : k < dC (aV s)
  · obtain ⟨M', t1, t2⟩ := trail_c (N := N) (n := n) (e := k + 1) (x1 := nI k) hN (by omega) hw b5 1 N k 0 M (by omega) (by omega) hc
    have t3 : b_X6_tracked_18 N (nI n) (nI k) N 0 0 R4 = _ := trk_one (T := fun q => bitL (kC (dS (aV s) q)) ||| (itN (aT s (dL (aV s))) (dW (aV s)) n (dN (aV s)) (dS (aV s) q)).2) hc6 b5 hC4 hT4 (dC (aV s)) N 0 0 (by omega) (by omega)
    rw [if_pos ((nI_ltI hk (by omega)).mpr b5), if_neg (nI_m1 k hk), nI_1, t1, bd2_s, show (nI (dC (aV s)) - 1 : Int32) = nI (dC (aV s) - 1) by rw [lk_1, pk_sub (by omega)], decide_eq_true ⟨b3, fun q => by rw [ltI (by omega) hk] at q; omega⟩, if_pos rfl, t3, bd2_s, if_pos (Nat.zero_le k)]
    exact ⟨_, M', R4, rfl, rfl, s, hw, t2, hr4⟩
  · rw [if_neg (fun q => b5 ((nI_ltI hk (by omega)).mp q)), decide_eq_false (fun q => by
      have q2 := q.2
      rw [Int32.lt_iff_toInt_lt, lk_1, pk_sub_toInt (by omega) (by decide), nI_toInt hk] at q2
      omega), if_neg Bool.false_ne_true]
    exact ⟨_, M, R, rfl, rfl, s, hw, hc, hr⟩
