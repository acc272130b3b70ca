/-! L2: which runs are runs -/
theorem nn_ex {x : Int32} (h : ¬ x < 0) : ∃ k : Nat, k < 2 ^ 31 ∧ x = nI k := by
  rcases ix_cases x (n := 2 ^ 31 - 1) (by decide) with q | ⟨_, q⟩ | ⟨j, q1, q2⟩
  · exact absurd q h
  · refine ⟨2 ^ 31 - 1, by decide, Int32.le_antisymm ?_ q⟩
    rw [Int32.le_iff_toInt_le, nI_toInt (by decide)]
    have := Int32.toInt_lt x
    omega
  · exact ⟨j, by omega, q2⟩
theorem in_n {k a b : Nat} (hk : k < 2 ^ 31) (ha : a < 2 ^ 31) (hb : b < 2 ^ 31) (R : Mem) : f_X6_in (nI k) (nI a) (nI b) R = some (decide (a ≤ k ∧ k ≤ b)) := by
  rw [in_r]
  by_cases h : a ≤ k ∧ k ≤ b
  · rw [decide_eq_true h, decide_eq_true (show ¬ nI k < nI a ∧ ¬ nI b < nI k from ⟨fun z => by rw [ltI hk ha] at z; omega, fun z => by rw [ltI hb hk] at z; omega⟩)]
  · rw [decide_eq_false h, decide_eq_false (fun (z : ¬ nI k < nI a ∧ ¬ nI b < nI k) => by
      rw [ltI hk ha, ltI hb hk] at z
      omega)]
theorem run_bad_r {N : Nat} {x1 x2 : Int32} {R : Mem} (h : decide (¬ x1 < 0 ∧ ¬ (40 : Int32) < x1) = false) : f_X6_run N x1 x2 R = some (-100000, R) := by
  have hA : ∀ t, b_X6_run_46 N x1 x2 t R = some (-100000, R) := fun t => by
    unfold b_X6_run_46
    rw [in_r, h, bind_some_, if_neg Bool.false_ne_true]
  simp only [f_X6_run, b_X6_run_0, b_X6_run_41, in_r, bind_some_, hA, ite_self]
theorem run_bad_c {N : Nat} {x1 x2 : Int32} {M : Mem} (h : decide (¬ x1 < 0 ∧ ¬ (40 : Int32) < x1) = false) : f_X5_run N x1 x2 M = some (-100000, M) := by
  have hA : ∀ x3 t, b_X5_run_29 N x1 x2 x3 t M = some (-100000, M) := fun x3 t => by
    unfold b_X5_run_29
    by_cases h1 : x1 < 0
    · rw [if_pos h1]
    · by_cases h2 : (40 : Int32) < x1
      · rw [if_neg h1, if_pos h2]
      · exact absurd (And.intro h1 h2) (of_decide_eq_false h)
  simp only [f_X5_run, b_X5_run_0, b_X5_run_11, hA, ite_self]
theorem run_46_0 {N : Nat} {x1 x2 : Int32} {R : Mem} : b_X6_run_46 N x1 x2 0 R = some (-100000, R) := by
  unfold b_X6_run_46
  rw [in_r, bind_some_, if_pos (show (0 : Int32) = 0 from rfl), ite_self]
theorem run_r {N k cnt : Nat} {x1 : Int32} {R : Mem} (hk : k < 2 ^ 31) (hc : cnt ≤ 6) (hC : FI R 100 0 = nI cnt) : f_X6_run N x1 (nI k) R = if k ≤ 2 ∨ (10 ≤ k ∧ k ≤ 9 + cnt) ∨ (20 ≤ k ∧ k ≤ 19 + cnt) then b_X6_run_46 N x1 (nI k) 1 R else some (-100000, R) := by
  unfold f_X6_run b_X6_run_0 b_X6_run_41
  rw [hC, lk_9, lk_19, nI_add, nI_add, show f_X6_in (nI k) 0 2 R = some (decide (0 ≤ k ∧ k ≤ 2)) from in_n hk (by decide) (by decide) R, show f_X6_in (nI k) 10 (nI (9 + cnt)) R = some (decide (10 ≤ k ∧ k ≤ 9 + cnt)) from in_n hk (by decide) (by omega) R, show f_X6_in (nI k) 20 (nI (19 + cnt)) R = some (decide (20 ≤ k ∧ k ≤ 19 + cnt)) from in_n hk (by decide) (by omega) R, bind_some_, bind_some_, bind_some_, run_46_0]
  by_cases h1 : k ≤ 2
  · rw [decide_eq_true (show 0 ≤ k ∧ k ≤ 2 by omega), if_pos rfl, if_pos (Or.inl h1)]
  · rw [decide_eq_false (show ¬ (0 ≤ k ∧ k ≤ 2) by omega), if_neg Bool.false_ne_true]
    by_cases h2 : 10 ≤ k ∧ k ≤ 9 + cnt
    · rw [decide_eq_true h2, if_pos rfl, if_pos (Or.inr (Or.inl h2))]
    · rw [decide_eq_false h2, if_neg Bool.false_ne_true]
      by_cases h3 : 20 ≤ k ∧ k ≤ 19 + cnt
      · rw [decide_eq_true h3, if_pos rfl, if_pos (Or.inr (Or.inr h3))]
      · rw [decide_eq_false h3, if_neg Bool.false_ne_true, if_neg (fun z => z.elim h1 (fun z => z.elim h2 h3))]
theorem run_29 {N n k : Nat} {x3 t0 : Int32} {M : Mem} (hn : n ≤ 40) (hk : k < 2 ^ 31) : b_X5_run_29 N (nI n) (nI k) x3 t0 M = (if x3 = 0 then (if (2 : Int32) < nI k then some ((-100000 : Int32), M) else b_X5_run_54 N (nI n) (nI k) x3 t0 M) else b_X5_run_54 N (nI n) (nI k) x3 t0 M) := by
  unfold b_X5_run_29
  rw [if_neg (nI_pos (by omega)), if_neg (show ¬ (40 : Int32) < nI n from fun z => by rw [lk_40, ltI (by decide) (by omega)] at z; omega), if_neg (nI_pos (by omega))]
theorem run_c {N n k cnt : Nat} {M : Mem} (hn : n ≤ 40) (hk : k < 2 ^ 31) (hc : cnt ≤ 6) (hC : FI M 1 3 = nI cnt) : f_X5_run N (nI n) (nI k) M = if k ≤ 2 ∨ (10 ≤ k ∧ k ≤ 9 + cnt) ∨ (20 ≤ k ∧ k ≤ 19 + cnt) then b_X5_run_73 N (nI n) (nI k) (if 20 ≤ k then nI (k - 20) else nI k - 10) M else some (-100000, M) := by
  unfold f_X5_run b_X5_run_0 b_X5_run_11
  by_cases h1 : k < 10
  · rw [if_pos (show nI k < (10 : Int32) from (nI_ltI (b := 10) hk (by decide)).mpr h1), if_neg (show ¬ (20 : Int32) ≤ nI k from nI_ge (b := 20) (by omega) (by decide)), run_29 hn hk, if_pos rfl, if_neg (show ¬ 20 ≤ k by omega)]
    by_cases h2 : k ≤ 2
    · rw [if_neg (show ¬ (2 : Int32) < nI k from fun z => by rw [lk_2, ltI (by decide) hk] at z; omega), if_pos (Or.inl h2)]
      unfold b_X5_run_54
      rw [if_pos rfl]
    · rw [if_pos (show (2 : Int32) < nI k from (nI_ltI (a := 2) (by decide) hk).mpr (by omega)), if_neg (by omega)]
  · rw [if_neg (show ¬ nI k < (10 : Int32) from fun z => h1 ((nI_ltI (b := 10) hk (by decide)).mp z))]
    by_cases h2 : 20 ≤ k
    · rw [if_pos (show (20 : Int32) ≤ nI k from nI_le (a := 20) h2 hk), run_29 hn hk, if_neg (show ¬ (1 : Int32) = 0 by decide), show nI k - 20 = nI (k - 20) by rw [lk_20, pk_sub h2], if_pos h2]
      unfold b_X5_run_54
      rw [if_neg (show ¬ (1 : Int32) = 0 by decide), hC]
      by_cases h3 : k - 20 < cnt
      · rw [if_pos ((nI_ltI (by omega) (by omega)).mpr h3), if_pos (by omega)]
      · rw [if_neg (fun z => h3 ((nI_ltI (by omega) (by omega)).mp z)), if_neg (by omega)]
    · rw [if_neg (show ¬ (20 : Int32) ≤ nI k from nI_ge (b := 20) (by omega) (by decide)), run_29 hn hk, if_neg (show ¬ (1 : Int32) = 0 by decide), show nI k - 10 = nI (k - 10) by rw [lk_10, pk_sub (by omega)], if_neg h2]
      unfold b_X5_run_54
      rw [if_neg (show ¬ (1 : Int32) = 0 by decide), hC]
      by_cases h3 : k - 10 < cnt
      · rw [if_pos ((nI_ltI (by omega) (by omega)).mpr h3), if_pos (by omega)]
      · rw [if_neg (fun z => h3 ((nI_ltI (by omega) (by omega)).mp z)), if_neg (by omega)]
