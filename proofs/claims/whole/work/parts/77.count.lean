/-! L2: count -/
def uN (w : Int64) : Nat := w.toBitVec.toNat
theorem uN_and (x y : Int64) : uN (x &&& y) = uN x &&& uN y := by
  unfold uN
  rw [Int64.toBitVec_and, BitVec.toNat_and]
theorem uN_add (x y : Int64) (h : uN x + uN y < 2 ^ 64) : uN (x + y) = uN x + uN y := by
  unfold uN at h ⊢
  rw [Int64.toBitVec_add, BitVec.toNat_add, Nat.mod_eq_of_lt h]
theorem uN_sub (x y : Int64) (h : uN y ≤ uN x) : uN (x - y) = uN x - uN y := by
  unfold uN at h ⊢
  rw [Int64.toBitVec_sub, BitVec.toNat_sub_of_le h]
theorem uN_sh {k : Nat} (hk : k < 64) (x : Int64) : uN ((x.toUInt64 >>> ((nI k).toInt64.toUInt64 &&& Int64.toUInt64 63)).toInt64) = uN x / 2 ^ k := by
  unfold uN
  show ((x.toUInt64 >>> ((nI k).toInt64.toUInt64 &&& Int64.toUInt64 63)).toBitVec).toNat = _
  rw [UInt64.toBitVec_shiftRight, BitVec.ushiftRight_eq', BitVec.toNat_ushiftRight, us_c k hk, Nat.shiftRight_eq_div_pow]
  rfl
theorem lt_uN (w : Int64) : uN w < 2 ^ 64 := w.toBitVec.isLt
theorem uN_i32 (x : Int64) : x.toInt32.toBitVec.toNat % 2 ^ 7 = uN x % 2 ^ 7 := by
  unfold uN
  rw [Int64.toBitVec_toInt32, BitVec.signExtend_eq_setWidth_of_le _ (by decide), BitVec.toNat_setWidth]
  exact Nat.mod_mod_of_dvd _ ⟨2 ^ 25, rfl⟩
theorem m85 : uN 6148914691236517205 = byV (fun _ => 85) 8 := by decide +kernel
theorem m51 : uN 3689348814741910323 = byV (fun _ => 51) 8 := by decide +kernel
theorem m15 : uN 1085102592571150095 = byV (fun _ => 15) 8 := by decide +kernel
theorem bitCount_c (w : Int64) (M : Mem) : f_J13_bitCount_95d88 w M = some (nI (popL w)) := by
  have hf : ∀ i, uN w / 2 ^ (8 * i) % 256 < 256 := fun i => Nat.mod_lt _ (by decide)
  have h8 : uN w / 2 ^ (8 * 8) % 256 = 0 := by rw [Nat.div_eq_of_lt (lt_uN w)]
  obtain ⟨y1, y2, y3, e1, l1, b1, e2, b2, b3, e3, e4⟩ := cnt_by hf h8
  rw [digits (lt_uN w)] at e1 l1
  have hE : ∀ i, eB (uN w / 2 ^ (8 * i) % 256) ≤ 8 := fun i => (by_tab _ (hf i)).2.2.2.2.2.2
  obtain ⟨z1, z2, z3, g0, g1, g2, g3, g4, g5, g6, g7⟩ := fold_by hE
  rw [← e4] at g0 g1
  have hp : popL w = sumF (fun i => eB (uN w / 2 ^ (8 * i) % 256)) 8 := by
    rw [pop_by]
    exact sumF_cong 8 (fun i _ => (by_tab _ (hf i)).2.2.2.2.2.1.symm)
  have k1 : (1 : Int32) = nI 1 := rfl
  have k2 : (2 : Int32) = nI 2 := rfl
  have k4 : (4 : Int32) = nI 4 := rfl
  have k8 : (8 : Int32) = nI 8 := rfl
  have k16 : (16 : Int32) = nI 16 := rfl
  have k32 : (32 : Int32) = nI 32 := rfl
  unfold f_J13_bitCount_95d88 b_J13_bitCount_95d88_0
  have u1 : uN (w - (((w.toUInt64 >>> ((1 : Int32).toInt64.toUInt64 &&& Int64.toUInt64 63)).toInt64) &&& (6148914691236517205 : Int64))) = y1 := by
    rw [uN_sub _ _ (by rw [uN_and, k1, uN_sh (by decide), m85]; exact l1), uN_and, k1, uN_sh (by decide), m85]
    exact e1
  generalize (w - (((w.toUInt64 >>> ((1 : Int32).toInt64.toUInt64 &&& Int64.toUInt64 63)).toInt64) &&& (6148914691236517205 : Int64))) = w1 at u1 ⊢
  unfold b_J13_bitCount_95d88_10
  have u2 : uN ((w1 &&& (3689348814741910323 : Int64)) + (((w1.toUInt64 >>> ((2 : Int32).toInt64.toUInt64 &&& Int64.toUInt64 63)).toInt64) &&& (3689348814741910323 : Int64))) = y2 := by
    have ea : uN (w1 &&& (3689348814741910323 : Int64)) = y1 &&& byV (fun _ => 51) 8 := by rw [uN_and, m51, u1]
    have eb : uN (((w1.toUInt64 >>> ((2 : Int32).toInt64.toUInt64 &&& Int64.toUInt64 63)).toInt64) &&& (3689348814741910323 : Int64)) = (y1 / 2 ^ 2) &&& byV (fun _ => 51) 8 := by rw [uN_and, m51, k2, uN_sh (by decide), u1]
    rw [uN_add _ _ (by rw [ea, eb, e2]; exact b2), ea, eb, e2]
  generalize ((w1 &&& (3689348814741910323 : Int64)) + (((w1.toUInt64 >>> ((2 : Int32).toInt64.toUInt64 &&& Int64.toUInt64 63)).toInt64) &&& (3689348814741910323 : Int64))) = w2 at u2 ⊢
  unfold b_J13_bitCount_95d88_24
  have u3 : uN ((w2 + ((w2.toUInt64 >>> ((4 : Int32).toInt64.toUInt64 &&& Int64.toUInt64 63)).toInt64)) &&& (1085102592571150095 : Int64)) = y3 := by
    have eb : uN ((w2.toUInt64 >>> ((4 : Int32).toInt64.toUInt64 &&& Int64.toUInt64 63)).toInt64) = y2 / 2 ^ 4 := by rw [k4, uN_sh (by decide), u2]
    rw [uN_and, m15, uN_add _ _ (by rw [eb, u2]; exact b3), eb, u2]
    exact e3
  generalize ((w2 + ((w2.toUInt64 >>> ((4 : Int32).toInt64.toUInt64 &&& Int64.toUInt64 63)).toInt64)) &&& (1085102592571150095 : Int64)) = w3 at u3 ⊢
  unfold b_J13_bitCount_95d88_34
  have u4 : uN (w3 + ((w3.toUInt64 >>> ((8 : Int32).toInt64.toUInt64 &&& Int64.toUInt64 63)).toInt64)) = z1 := by
    have eb : uN ((w3.toUInt64 >>> ((8 : Int32).toInt64.toUInt64 &&& Int64.toUInt64 63)).toInt64) = y3 / 2 ^ 8 := by rw [k8, uN_sh (by decide), u3]
    rw [uN_add _ _ (by rw [eb, u3, g1]; omega), eb, u3, g1]
  generalize (w3 + ((w3.toUInt64 >>> ((8 : Int32).toInt64.toUInt64 &&& Int64.toUInt64 63)).toInt64)) = w4 at u4 ⊢
  unfold b_J13_bitCount_95d88_41
  have u5 : uN (w4 + ((w4.toUInt64 >>> ((16 : Int32).toInt64.toUInt64 &&& Int64.toUInt64 63)).toInt64)) = z2 := by
    have eb : uN ((w4.toUInt64 >>> ((16 : Int32).toInt64.toUInt64 &&& Int64.toUInt64 63)).toInt64) = z1 / 2 ^ 16 := by rw [k16, uN_sh (by decide), u4]
    rw [uN_add _ _ (by rw [eb, u4, g3]; omega), eb, u4, g3]
  generalize (w4 + ((w4.toUInt64 >>> ((16 : Int32).toInt64.toUInt64 &&& Int64.toUInt64 63)).toInt64)) = w5 at u5 ⊢
  unfold b_J13_bitCount_95d88_48
  have u6 : uN (w5 + ((w5.toUInt64 >>> ((32 : Int32).toInt64.toUInt64 &&& Int64.toUInt64 63)).toInt64)) = z3 := by
    have eb : uN ((w5.toUInt64 >>> ((32 : Int32).toInt64.toUInt64 &&& Int64.toUInt64 63)).toInt64) = z2 / 2 ^ 32 := by rw [k32, uN_sh (by decide), u5]
    rw [uN_add _ _ (by rw [eb, u5, g5]; omega), eb, u5, g5]
  generalize (w5 + ((w5.toUInt64 >>> ((32 : Int32).toInt64.toUInt64 &&& Int64.toUInt64 63)).toInt64)) = w6 at u6 ⊢
  unfold b_J13_bitCount_95d88_55
  rw [pk_and _ (m := 127) 7 (by decide), uN_i32, u6, g7, ← hp]
theorem bit1_r (w : Int64) {c : Nat} (hc : c < 64) : (lg_cmp ((w >>> ((nI c).toInt64 &&& 63)) &&& (1 : Int64)) (1 : Int64) = 0) = (w.toBitVec.getLsbD c = true) := by
  rw [lg_cmp_0]
  have h1 := and1_1 (w >>> ((nI c).toInt64 &&& 63))
  have h2 : (w >>> ((nI c).toInt64 &&& 63)).toBitVec.getLsbD 0 = w.toBitVec.getLsbD c := by
    rw [Int64.toBitVec_shiftRight, BitVec.sshiftRight_eq', BitVec.getLsbD_sshiftRight, sm_c c hc]
    simp [hc]
  rw [h2] at h1
  exact propext h1
theorem bits_loop {N : Nat} {w : Int64} {R : Mem} : ∀ (m fu j : Nat), m < fu → j + m = 64 → b_X6_bitsOf_4 N R w fu (nI (sumF (fun c => if w.toBitVec.getLsbD c = true then 1 else 0) j)) (nI j) = some (nI (popL w)) := by
  intro m
  induction m with
  | zero =>
    intro fu j hf hj
    obtain ⟨fu, rfl⟩ : ∃ z, fu = z + 1 := ⟨fu - 1, by omega⟩
    have : j = 64 := by omega
    subst this
    rw [b_X6_bitsOf_4, if_pos (show (64 : Int32) ≤ nI 64 by decide)]
    rfl
  | succ m ih =>
    intro fu j hf hj
    obtain ⟨fu, rfl⟩ : ∃ z, fu = z + 1 := ⟨fu - 1, by omega⟩
    have h := ih fu (j + 1) (by omega) (by omega)
    rw [show sumF (fun c => if w.toBitVec.getLsbD c = true then 1 else 0) (j + 1) = sumF (fun c => if w.toBitVec.getLsbD c = true then 1 else 0) j + (if w.toBitVec.getLsbD j = true then 1 else 0) from rfl] at h
    rw [b_X6_bitsOf_4, if_neg (show ¬ (64 : Int32) ≤ nI j from nI_ge (b := 64) (by omega) (by decide))]
    unfold b_X6_bitsOf_26
    by_cases q : w.toBitVec.getLsbD j = true
    · rw [if_pos q] at h
      rw [if_pos ((bit1_r w (by omega)).mpr q), nI_1, nI_1]
      exact h
    · rw [if_neg q] at h
      rw [if_neg (fun z => q ((bit1_r w (by omega)).mp z)), Int32.add_zero, nI_1]
      exact h
theorem bits_r {N : Nat} (hN : 160 < N) (w : Int64) (R : Mem) : f_X6_bitsOf N w R = some (nI (popL w)) := by
  unfold f_X6_bitsOf b_X6_bitsOf_0
  exact bits_loop 64 N 0 (by omega) (by omega)
theorem popL_le (w : Int64) : popL w ≤ 64 := by
  have := sumF_le (f := fun c => if w.toBitVec.getLsbD c = true then 1 else 0) (c := 1) 64 (fun k _ => by split <;> omega)
  unfold popL
  omega
theorem st_count {N : Nat} {M R : Mem} (hN : 160 < N) (x1 : Int32) (h : Sim M R) : ∃ r, f_X5_count x1 M = some r ∧ f_X6_count N x1 R = some r := by
  obtain ⟨s, hw, hc, hr⟩ := h
  unfold f_X5_count b_X5_count_0 f_X6_count b_X6_count_0
  rw [bitCount_c, bind_some_, bits_r hN, bind_some_, show FJ M 1 0 = dW (aV s) from hc.1.1, show FJ R 100 6 = dW (aV s) from hr.1.1, show FI M 1 3 = _ from hc.1.2.2.2.1, show FI R 100 0 = _ from hr.1.2.2.2.1, show FI M 1 1 = _ from hc.1.2.1, show FI R 100 7 = _ from hr.1.2.1, show FI M 0 8 = _ from hc.2.1, show FI R 100 12 = _ from hr.2.1, show FI M 1 2 = _ from hc.1.2.2.1, show FI R 100 13 = _ from hr.1.2.2.1, show FI M 0 9 = _ from hc.2.2.2.1, show FI R 100 9 = _ from hr.2.2.2.1]
  (repeat' split) <;> exact ⟨_, rfl, rfl⟩
