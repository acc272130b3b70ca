/-! L2: run, whole -/
theorem st_run {N : Nat} {M R : Mem} (hN : 160 < N) (x1 x2 : Int32) (h : Sim M R) : ∃ r M' R', f_X5_run N x1 x2 M = some (r, M') ∧ f_X6_run N x1 x2 R = some (r, R') ∧ Sim M' R' := by
  obtain ⟨s, hw, hc, hr⟩ := h
  by_cases hb : decide (¬ x1 < 0 ∧ ¬ (40 : Int32) < x1) = false
  · exact ⟨_, M, R, run_bad_c hb, run_bad_r hb, s, hw, hc, hr⟩
  have hb1 : ¬ x1 < 0 ∧ ¬ (40 : Int32) < x1 := by
    by_cases q : ¬ x1 < 0 ∧ ¬ (40 : Int32) < x1
    · exact q
    · exact absurd (decide_eq_false q) hb
  obtain ⟨n, hn0, rfl⟩ := nn_ex hb1.1
  have hn : n ≤ 40 := by
    have z := hb1.2
    rw [lk_40, ltI (by decide) hn0] at z
    omega
  have hc6 : dC (aV s) ≤ 6 := hw.1.1
  have kC0 : FI M 1 3 = nI (dC (aV s)) := hc.1.2.2.2.1
  have kR0 : FI R 100 0 = nI (dC (aV s)) := hr.1.2.2.2.1
  by_cases h0 : x2 < 0
  · refine ⟨-100000, M, R, ?_, ?_, s, hw, hc, hr⟩
    · have hA : ∀ x3 t, b_X5_run_29 N (nI n) x2 x3 t M = some (-100000, M) := fun x3 t => by
        unfold b_X5_run_29
        rw [if_neg hb1.1, if_neg hb1.2, if_pos h0]
      simp only [f_X5_run, b_X5_run_0, b_X5_run_11, hA, ite_self]
    · have d1 : ∀ a : Nat, a < 2 ^ 31 → ∀ b : Int32, decide (¬ x2 < nI a ∧ ¬ b < x2) = false := fun a ha b => decide_eq_false (fun z => by
        have z1 := Int32.not_lt.mp z.1
        exact h0 |> fun q => absurd (Int32.le_trans (nI_pos' ha) z1) (lt_nle q))
      unfold f_X6_run b_X6_run_0
      rw [in_r, in_r, in_r, bind_some_, bind_some_, bind_some_, show decide (¬ x2 < 0 ∧ ¬ (2 : Int32) < x2) = false from d1 0 (by decide) _, if_neg Bool.false_ne_true, show decide (¬ x2 < 10 ∧ ¬ (9 + FI R 100 0 : Int32) < x2) = false from d1 10 (by decide) _, if_neg Bool.false_ne_true, show decide (¬ x2 < 20 ∧ ¬ (19 + FI R 100 0 : Int32) < x2) = false from d1 20 (by decide) _, if_neg Bool.false_ne_true, run_46_0]
  obtain ⟨k, hk, rfl⟩ := nn_ex h0
  rw [run_c hn hk hc6 kC0, run_r hk hc6 kR0]
  by_cases C' : ¬ (k ≤ 2 ∨ (10 ≤ k ∧ k ≤ 9 + dC (aV s)) ∨ (20 ≤ k ∧ k ≤ 19 + dC (aV s)))
  · rw [if_neg C', if_neg C']
    exact ⟨_, M, R, rfl, rfl, s, hw, hc, hr⟩
  have C : k ≤ 2 ∨ (10 ≤ k ∧ k ≤ 9 + dC (aV s)) ∨ (20 ≤ k ∧ k ≤ 19 + dC (aV s)) := Decidable.not_not.mp C'
  rw [if_pos C, if_pos C]
  obtain ⟨M1, M2, a1, a2, a3, a4⟩ := think_c (N := N) (n := n) hN (by omega) hw hc
  obtain ⟨R1, R2, b1, b2, b3, b4, b5, b6, b7⟩ := think_r (N := N) (n := n) hN (by omega) hw hr
  have wf2 := wf_wN (x := aT s (dL (aV s))) (w := dW (aV s)) n (dN (aV s)) hw.1.2.1
  generalize wN (aT s (dL (aV s))) (dW (aV s)) (dC (aV s)) n (dN (aV s)) (dS (aV s)) = Z at a2 a3 b3 b5 wf2
  have fin : ∀ M3 R3, Mx gC M2 M3 → Mt R2 R3 → FJ R3 100 6 = FJ R2 100 6 → ∃ R4, f_X6_lays N R3 = some R4 ∧ Sim M3 R4 := fun M3 R3 g m3 j3 => by
    obtain ⟨R4, c1, c2, _, _⟩ := b7 R3 m3 j3
    exact ⟨R4, c1, s, hw, hc.mg hw (a4.tr g), hr.rg hw c2⟩
  have hl : dL (aV s) < aX s := hw.1.2.2.2
  have hx6 : aX s ≤ 6 := hw.2.1.2.1
  unfold b_X5_run_73 b_X6_run_46
  rw [a1, bind_some_, a2, bd2_s, in_r, bind_some_, decide_eq_true hb1, if_pos rfl, if_neg (show ¬ (1 : Int32) = 0 by decide), b1, bind_some_, b2, bind_some_]
  unfold f_X6_toldBehind b_X6_toldBehind_0
  by_cases k0 : k = 0
  · subst k0
    rw [if_pos (show nI 0 = 0 from rfl), if_pos (show nI 0 = 0 from rfl), bd2_s, b5]
    obtain ⟨R4, c1, c2⟩ := fin M2 R2 (Mx.rf _ _) (Mt.rf _) rfl
    rw [c1, bind_some_]
    exact ⟨_, _, _, rfl, rfl, c2⟩
  have nk0 : ¬ nI k = 0 := fun z => k0 ((nI_eq (b := 0) hk (by decide)).mp z)
  rw [if_neg nk0, if_neg nk0]
  by_cases k1 : k = 1
  · subst k1
    have l2 : FI M2 1 2 = nI (dL (aV s)) := ((a4 1 (by unfold gC; omega)).1 2).trans hc.1.2.2.1
    have T2 : RTc M2 (46 + dL (aV s)) (aT s (dL (aV s))) := (hc.2.2.1.mx a4 hx6 (fun a h1 h2 => by unfold gC; omega)) _ hl
    obtain ⟨g, e1⟩ := mindsAll_c (N := N) (wi := 2) (t := 46 + dL (aV s)) hN (by decide) (by decide) hc6 (kd_t (by omega)) (hw.2.1.2.2 _ hl) wf2 a3 T2
    obtain ⟨R3, d1, d2, d3, d4, d5, d6⟩ := mindsAll_loop_r (N := N) hN hc6 hl hx6 hw.2.1.2.2 wf2 (dC (aV s)) N 0 R2 (by omega) (by omega) b4 b3
    have d1' : b_X6_mindsAll_4 N N 0 0 R2 = _ := d1
    unfold f_X6_mindsAll b_X6_mindsAll_0
    rw [if_pos (show nI 1 = 1 from rfl), if_pos (show nI 1 = 1 from rfl), theLaw_c (by omega) l2, bind_some_, gd_t (isK_t (kd_t (by omega))), e1, bd2_s, d1', bd2_s, bd2_s]
    obtain ⟨R4, c1, c2⟩ := fin (rAI M2 70 g) R3 (fun a ha => ⟨fun _ => rfl, fun _ => rfl, AI_rAI_n _ _ (fun z => ha (by subst z; unfold gC; omega))⟩) d2 (by rw [d5])
    rw [c1, bind_some_]
    exact ⟨_, _, _, rfl, rfl, c2⟩
  have nk1 : ¬ nI k = 1 := fun z => k1 ((nI_eq (b := 1) hk (by decide)).mp z)
  rw [if_neg nk1, if_neg nk1]
  obtain ⟨R4, c1, c2⟩ := fin M2 R2 (Mx.rf _ _) (Mt.rf _) rfl
  by_cases k2 : k = 2
  · subst k2
    have t1 := twos_c (N := N) (wi := 2) (f := fun q => kC (Z.2 q)) hN (by decide) (by decide) hc6 a3.2.2.2.1 (fun q hq => (wf2 q hq).2.2.1) (fun q hq => (a3.2.2.2.2 q hq).2.2.1) (dC (aV s)) N 0 (by omega) (by omega)
    have t2 := twos_r (N := N) (f := fun q => kC (Z.2 q)) hN hc6 b3.2.2.2.1 (fun q hq => (wf2 q hq).2.2.1) (fun q hq => (b3.2.2.2.2 q hq).2.2.1) (dC (aV s)) N 0 (by omega) (by omega)
    have t3 := tw_eq (fun a b => if kC (Z.2 a) = kC (Z.2 b) then 1 else 0) (fun a b => by simp only [eq_comm]) hc6
    have t1' : b_X4_twos_4 N M2 2 N 0 0 = _ := t1
    have t2' : b_X6_twosNow_4 N R2 N 0 0 = _ := t2
    unfold f_X4_twos b_X4_twos_0 f_X6_twosNow b_X6_twosNow_0
    rw [if_pos (show nI 2 = 2 from rfl), if_pos (show nI 2 = 2 from rfl), t1', t2', bind_some_, bind_some_, bd2_s, c1, bind_some_]
    exact ⟨_, _, _, rfl, by rw [t3], c2⟩
  have nk2 : ¬ nI k = 2 := fun z => k2 ((nI_eq (b := 2) hk (by decide)).mp z)
  rw [if_neg nk2, if_neg nk2, numbered_w (by decide) (by decide) hc6 a3.2.2.2.1]
  by_cases k20 : 20 ≤ k
  · have hp : k - 20 < dC (aV s) := by omega
    rw [if_pos k20, if_pos ⟨nI_pos (by omega), (nI_ltI (by omega) (by omega)).mpr hp⟩, bind_some_, oc_some_, if_pos (show (20 : Int32) ≤ nI k from nI_le (a := 20) k20 hk), if_pos (show (20 : Int32) ≤ nI k from nI_le (a := 20) k20 hk), nI_clamp (by omega), gd_t (isK_t (slx_kd (by decide) (by decide) (by omega))), show (5 : Int32) * (nI k - 20) + 3 = nI (5 * (k - 20) + 3) by rw [lk_20, pk_sub k20, lk_5, pk_mul, lk_3, nI_add], gdn (n := len 103) (show 5 * (k - 20) + 3 < 30 by omega) (by decide), nI_clamp (by omega), bd2_s, c1, bind_some_, show FI M2 (slx 2 (k - 20)) 5 = _ from (a3.2.2.2.2 _ hp).2.2.2.2.2.1, show AI R2 103 (5 * (k - 20) + 3) = _ from (b3.2.2.2.2 _ hp).2.2.2.2.2.1]
    exact ⟨_, _, _, rfl, rfl, c2⟩
  · have hp : k - 10 < dC (aV s) := by omega
    rw [if_neg k20, lk_10, pk_sub (show 10 ≤ k by omega), if_pos ⟨nI_pos (by omega), (nI_ltI (by omega) (by omega)).mpr hp⟩, bind_some_, oc_some_, if_neg (show ¬ (20 : Int32) ≤ nI k from nI_ge (b := 20) (by omega) (by decide)), if_neg (show ¬ (20 : Int32) ≤ nI k from nI_ge (b := 20) (by omega) (by decide)), nI_clamp (by omega), gd_t (isK_t (slx_kd (by decide) (by decide) (by omega))), show (5 : Int32) * nI (k - 10) = nI (5 * (k - 10)) from pk_mul 5 _, gdn (n := len 103) (show 5 * (k - 10) < 30 by omega) (by decide), nI_clamp (by omega), bd2_s, c1, bind_some_, show FI M2 (slx 2 (k - 10)) 2 = _ from (a3.2.2.2.2 _ hp).2.2.1, show AI R2 103 (5 * (k - 10)) = _ from (b3.2.2.2.2 _ hp).2.2.1]
    exact ⟨_, _, _, rfl, rfl, c2⟩
