/-! L2: flood -/
theorem bit_bv : ∀ c, c < 64 → ∀ j, j < 64 → (bitL c).toBitVec.getLsbD j = decide (j = c) := by decide +kernel
theorem neg1_bv : ∀ j, j < 64 → (-1 : Int64).toBitVec.getLsbD j = true := by decide +kernel
theorem i64_ext {a b : Int64} (h : ∀ j, j < 64 → a.toBitVec.getLsbD j = b.toBitVec.getLsbD j) : a = b := Int64.toBitVec_inj.mp (BitVec.eq_of_getLsbD_eq h)
theorem fl_or1 {w : Int64} {c : Nat} (hc : c < 64) (hb : wetB w c = true) : w ||| bitL c = w := by
  rw [wetB_bit w hc] at hb
  refine i64_ext fun j hj => ?_
  rw [Int64.toBitVec_or, BitVec.getLsbD_or, bit_bv c hc j hj]
  by_cases e : j = c
  · subst e; simp [hb]
  · simp [e]
theorem fl_or0 {w : Int64} {c : Nat} (hc : c < 64) (hb : wetB w c = false) : w ||| bitL c = w ^^^ bitL c := by
  rw [wetB_bit w hc] at hb
  refine i64_ext fun j hj => ?_
  rw [Int64.toBitVec_or, Int64.toBitVec_xor, BitVec.getLsbD_or, BitVec.getLsbD_xor, bit_bv c hc j hj]
  by_cases e : j = c
  · subst e; simp [hb]
  · simp [e]
theorem fl_an1 {w : Int64} {c : Nat} (hc : c < 64) (hb : wetB w c = true) : w &&& (bitL c ^^^ (-1 : Int64)) = w ^^^ bitL c := by
  rw [wetB_bit w hc] at hb
  refine i64_ext fun j hj => ?_
  rw [Int64.toBitVec_and, Int64.toBitVec_xor, Int64.toBitVec_xor, BitVec.getLsbD_and, BitVec.getLsbD_xor, BitVec.getLsbD_xor, bit_bv c hc j hj, neg1_bv j hj]
  by_cases e : j = c
  · subst e; simp [hb]
  · simp [e]
theorem fl_an0 {w : Int64} {c : Nat} (hc : c < 64) (hb : wetB w c = false) : w &&& (bitL c ^^^ (-1 : Int64)) = w := by
  rw [wetB_bit w hc] at hb
  refine i64_ext fun j hj => ?_
  rw [Int64.toBitVec_and, Int64.toBitVec_xor, BitVec.getLsbD_and, BitVec.getLsbD_xor, bit_bv c hc j hj, neg1_bv j hj]
  by_cases e : j = c
  · subst e; simp [hb]
  · simp [e]
theorem cell_b (x : Int32) (M R : Mem) : (∃ c : Nat, c < 64 ∧ x = nI c ∧ f_X5_isCell x M = some true ∧ f_X6_isCell x R = some true) ∨ (f_X5_isCell x M = some false ∧ f_X6_isCell x R = some false) := by
  unfold f_X5_isCell b_X5_isCell_0 f_X6_isCell b_X6_isCell_0
  rw [in_r, bind_some_]
  rcases ix_cases x (n := 64) (by decide) with q | ⟨q0, q⟩ | ⟨j, q1, rfl⟩
  · right
    rw [if_pos q, decide_eq_false (fun z => z.1 q)]
    exact ⟨rfl, rfl⟩
  · right
    rw [if_neg q0, if_pos (show (64 : Int32) ≤ x from q), decide_eq_false (fun z => absurd (Int32.le_trans q (Int32.not_lt.mp z.2)) (by decide))]
    exact ⟨rfl, rfl⟩
  · left
    refine ⟨j, q1, rfl, ?_, ?_⟩
    · rw [if_neg (nI_pos (by omega)), if_neg (show ¬ (64 : Int32) ≤ nI j from nI_ge (b := 64) q1 (by decide))]
    · rw [decide_eq_true ⟨nI_pos (by omega), fun z => by
        rw [lk_63, ltI (by decide) (by omega)] at z
        omega⟩]
theorem bit_b (x : Int32) : x = 0 ∨ x = 1 ∨ (¬ x = 0 ∧ ¬ x = 1 ∧ decide (¬ x < 0 ∧ ¬ (1 : Int32) < x) = false) := by
  by_cases h0 : x = 0
  · exact Or.inl h0
  by_cases h1 : x = 1
  · exact Or.inr (Or.inl h1)
  refine Or.inr (Or.inr ⟨h0, h1, decide_eq_false (fun z => ?_)⟩)
  rcases ix_cases x (n := 2) (by decide) with q | ⟨q0, q⟩ | ⟨j, q1, rfl⟩
  · exact z.1 q
  · exact absurd (Int32.le_trans q (Int32.not_lt.mp z.2)) (by decide)
  · have hj : j = 0 ∨ j = 1 := by omega
    rcases hj with e | e
    · subst e; exact h0 rfl
    · subst e; exact h1 rfl
theorem mx_1j (M : Mem) (k : Nat) (v : Int64) : Mx (fun a => a = 1) M (sFJ M 1 k v) := fun a ha => ⟨fun _ => rfl, fun j => by rw [FJ_sFJ, if_neg (fun q => ha q.1)], rfl⟩
theorem fl_fin {M R : Mem} {s : St} (w' : Int64) (hw : wfSt s) (hc : RcS M s) (hr : RrS R s) {M' : Mem} (hm : Mx (fun a => a = 1) M M') (e : FJ M' 1 0 = w') (f : ∀ k, FI M' 1 k = FI M 1 k) : Sim M' (sFJ R 100 6 w') :=
  ⟨_, wf_sc (w := w') hw hw.1.2.2.1 hw.1.2.2.2, hc.sc hw hm e ((f 1).trans hc.1.2.1) ((f 2).trans hc.1.2.2.1) (f 3), hr.sc (fun _ _ _ => rfl) (fun k h6 => by rw [FJ_sFJ, if_neg (fun q => h6 q.2)]) (fun _ => rfl) (by rw [FJ_sFJ, if_pos ⟨rfl, rfl⟩]) hr.1.2.1 hr.1.2.2.1⟩
theorem st_flood {M R : Mem} (x1 x2 : Int32) (h : Sim M R) : ∃ r M' R', f_X5_flood x1 x2 M = some (r, M') ∧ f_X6_flood x1 x2 R = some (r, R') ∧ Sim M' R' := by
  obtain ⟨s, hw, hc, hr⟩ := h
  unfold f_X5_flood b_X5_flood_0 f_X6_flood b_X6_flood_0
  rcases cell_b x1 M R with ⟨c, hc64, rfl, e1, e2⟩ | ⟨e1, e2⟩
  · rw [e1, e2, bind_some_, bind_some_, if_pos rfl, if_pos rfl, in_r, bind_some_]
    have kw : FJ M 1 0 = dW (aV s) := hc.1.1
    have kr : FJ R 100 6 = dW (aV s) := hr.1.1
    rcases bit_b x2 with rfl | rfl | ⟨z0, z1, z2⟩
    · rw [if_pos rfl, decide_eq_true (show ¬ (0 : Int32) < 0 ∧ ¬ (1 : Int32) < 0 by decide), if_pos rfl, water_r kr hc64, bind_some_]
      unfold b_X5_flood_22
      rw [kw, water_c, bind_some_]
      cases hb : wetB (dW (aV s)) c
      · rw [if_neg Bool.false_ne_true, if_neg Bool.false_ne_true]
        unfold b_X5_flood_41 b_X6_flood_35 b_X6_flood_65
        rw [if_pos rfl, if_neg (show ¬ (0 : Int32) = 1 by decide), kr]
        exact ⟨_, _, _, rfl, rfl, fl_fin (dW (aV s) &&& (bitL c ^^^ (-1 : Int64))) hw hc hr (Mx.rf _ M) (kw.trans (fl_an0 hc64 hb).symm) (fun _ => rfl)⟩
      · rw [if_pos rfl, if_pos rfl]
        unfold b_X5_flood_41 b_X6_flood_35 b_X6_flood_65
        rw [if_neg (show ¬ (1 : Int32) = 0 by decide), if_neg (show ¬ (0 : Int32) = 1 by decide), kr, kw]
        exact ⟨_, _, _, rfl, rfl, fl_fin (dW (aV s) &&& (bitL c ^^^ (-1 : Int64))) hw hc hr (mx_1j M 0 _) ((by rw [FJ_sFJ, if_pos ⟨rfl, rfl⟩]; exact (fl_an1 hc64 hb).symm)) (fun _ => rfl)⟩
    · rw [if_neg (show ¬ (1 : Int32) = 0 by decide), if_pos rfl, decide_eq_true (show ¬ (1 : Int32) < 0 ∧ ¬ (1 : Int32) < 1 by decide), if_pos rfl, water_r kr hc64, bind_some_]
      unfold b_X5_flood_22
      rw [kw, water_c, bind_some_]
      cases hb : wetB (dW (aV s)) c
      · rw [if_neg Bool.false_ne_true, if_neg Bool.false_ne_true]
        unfold b_X5_flood_41 b_X6_flood_35 b_X6_flood_65
        rw [if_neg (show ¬ (0 : Int32) = 1 by decide), if_pos rfl, kr, kw]
        exact ⟨_, _, _, rfl, rfl, fl_fin (dW (aV s) ||| bitL c) hw hc hr (mx_1j M 0 _) ((by rw [FJ_sFJ, if_pos ⟨rfl, rfl⟩]; exact (fl_or0 hc64 hb).symm)) (fun _ => rfl)⟩
      · rw [if_pos rfl, if_pos rfl]
        unfold b_X5_flood_41 b_X6_flood_35 b_X6_flood_65
        rw [if_pos rfl, if_pos rfl, kr]
        exact ⟨_, _, _, rfl, rfl, fl_fin (dW (aV s) ||| bitL c) hw hc hr (Mx.rf _ M) (kw.trans (fl_or1 hc64 hb).symm) (fun _ => rfl)⟩
    · rw [if_neg z0, if_neg z1, z2, if_neg Bool.false_ne_true]
      exact ⟨_, M, R, rfl, rfl, s, hw, hc, hr⟩
  · rw [e1, e2, bind_some_, bind_some_, if_neg Bool.false_ne_true, if_neg Bool.false_ne_true]
    exact ⟨_, M, R, rfl, rfl, s, hw, hc, hr⟩
