/-! L2: put, told, darn -/
theorem neL {k n : Nat} (hk : k < 2 ^ 31) (hn : n < 2 ^ 31) (h : k ≠ n) : ¬ nI k = nI n := fun z => h ((nI_eq hk hn).mp z)
theorem wf_fields {σ : Sl} (h : wfS σ) {c way nx t l : Nat} (hc : c < 64) (hw : way < 4) (hn : nx < (kS σ).length) (ht : t ≤ 99) (hl : l ≤ 99) : wfS (mkS (kK σ) (kM σ) c way nx t l (kS σ)) := ⟨h.1, h.2.1, hc, hw, hn, ht, hl, h.2.2.2.2.2.2.2.1, h.2.2.2.2.2.2.2.2⟩
theorem st_put {M R : Mem} (x1 x2 x3 : Int32) (h : Sim M R) : ∃ r M' R', f_X5_put x1 x2 x3 M = some (r, M') ∧ f_X6_put x1 x2 x3 R = some (r, R') ∧ Sim M' R' := by
  obtain ⟨s, hw, hc, hr⟩ := h
  have hc6 : dC (aV s) ≤ 6 := hw.1.1
  unfold f_X5_put b_X5_put_0 f_X6_put b_X6_put_0
  rcases one_b x1 hw hc hr with ⟨p, hp, rfl, e1, e2⟩ | ⟨e1, e2⟩
  · rw [e1, bind_some_, oc_some_, e2, bind_some_, if_pos rfl]
    have ki := slx_kd (wi := 1) (q := p) (by decide) (by decide) (by omega)
    rw [gd_t (isK_t ki)]
    have hS := hc.1.2.2.2.2 p hp
    have hR := hr.1.2.2.2.2 p hp
    have hwf := hw.1.2.1 p hp
    obtain ⟨w0, w1, w2, w3, w4, w5, w6, w7, w8⟩ := id hwf
    obtain ⟨r0, r1, r2, r3, r4, r5, r6, r7, r8⟩ := id hS
    obtain ⟨q0, q1, q2, q3, q4, q5, q6, q7, q8⟩ := id hR
    have kp : (nI p).toNatClampNeg = p := nI_clamp (by omega)
    have go : ∀ (j b v0 : Nat) (σ' : Nat → Sl), j < 5 → 0 < b → b ≤ 100 → f_X2_bound (slx 1 p) (nI j) M = some (nI b) → f_X2_part (slx 1 p) (nI j) M = some (nI v0) → AI R 103 (5 * p + j) = nI v0 → (∀ v, f_X2_become (slx 1 p) (nI j) (nI v) M = some (sFI M (slx 1 p) (j + 2) (nI v))) → (∀ v, v < b → wfS (σ' v) ∧ kK (σ' v) = kK (dS (aV s) p) ∧ kM (σ' v) = kM (dS (aV s) p) ∧ RS (sFI M (slx 1 p) (j + 2) (nI v)) (slx 1 p) (σ' v) ∧ RR (sAI R 103 (5 * p + j) (nI v)) p (σ' v)) →
        ∃ r M' R', (if x3 < 0 then some ((-7 : Int32), M) else (f_X2_bound (slx 1 p) (nI j) M).bind fun r26 => (if x3 < r26 then (f_X2_part (slx 1 p) (nI j) M).bind fun r38 => (f_X2_become (slx 1 p) (nI j) x3 M).bind fun M47 => some (r38, M47) else some ((-7 : Int32), M))) = some (r, M') ∧ b_X6_put_47 (nI p) (nI j) x3 (nI (b - 1)) R = some (r, R') ∧ Sim M' R' := by
      intro j b v0 σ' hj hb0 hb100 hbd hpt hrr hbe hσ
      unfold b_X6_put_47
      rw [show f_X6_in (nI j) 0 4 R = some true from in_yes (n := 4) (by decide) (by omega) R, bind_some_, if_pos rfl, hbd, bind_some_]
      rcases rg_b x3 b (by omega) with ⟨v, hv, rfl⟩ | hb
      · obtain ⟨s1, s2, s3, s4, s5⟩ := hσ v hv
        rw [if_neg (nI_pos (by omega)), if_pos (nI_lt hv (by omega)), hpt, bind_some_, hbe, bind_some_, in_yes (n := b - 1) (by omega) (by omega) R, bind_some_, if_pos rfl, show (5 : Int32) * nI p = nI (5 * p) from pk_mul 5 p, nI_add, gdn (n := len 103) (show 5 * p + j < 30 by omega) (by decide), gdn (n := len 103) (show 5 * p + j < 30 by omega) (by decide), nI_clamp (by omega), hrr]
        exact ⟨_, _, _, rfl, rfl, setS s p (σ' v), wf_set hw s1 s2 s3, hc.set hw hp ((Mx.fi M (slx 1 p) (j + 2) _).wk (fun a ha => Or.inl ha)) s4, hr.set hw (Mp.row R _ (by omega) (by omega)) s5⟩
      · rw [show b = (b - 1) + 1 by omega] at hb
        rw [in_no (by omega) hb R, bind_some_, if_neg Bool.false_ne_true]
        refine ⟨-7, M, R, ?_, rfl, fin1 hw hc hr⟩
        by_cases q : x3 < 0
        · rw [if_pos q]
        · rw [if_neg q, if_neg (fun z => hb ⟨q, by rw [show b - 1 + 1 = b by omega]; exact z⟩)]
    rcases rg_b x2 5 (by decide) with ⟨j, hj, rfl⟩ | hb
    · have e : j = 0 ∨ j = 1 ∨ j = 2 ∨ j = 3 ∨ j = 4 := by omega
      rcases e with rfl | rfl | rfl | rfl | rfl
      · rw [if_pos (show nI 0 = 0 from rfl)]
        exact go 0 64 _ (fun v => mkS (kK (dS (aV s) p)) (kM (dS (aV s) p)) v (kW (dS (aV s) p)) (kN (dS (aV s) p)) (kT (dS (aV s) p)) (kL (dS (aV s) p)) (kS (dS (aV s) p))) (by decide) (by decide) (by decide) rfl (by rw [← r2]; rfl) q2 (fun v => rfl) (fun v hv => ⟨wf_fields hwf hv w3 w4 w5 w6, rfl, rfl, hS.s2 v, hR.s2 v⟩)
      · rw [if_neg (show ¬ nI 1 = 0 by decide), if_pos (show nI 1 = 1 from rfl)]
        exact go 1 4 _ (fun v => mkS (kK (dS (aV s) p)) (kM (dS (aV s) p)) (kC (dS (aV s) p)) v (kN (dS (aV s) p)) (kT (dS (aV s) p)) (kL (dS (aV s) p)) (kS (dS (aV s) p))) (by decide) (by decide) (by decide) rfl (by rw [← r3]; rfl) q3 (fun v => rfl) (fun v hv => ⟨wf_fields hwf w2 hv w4 w5 w6, rfl, rfl, hS.s3 v, hR.s3 v⟩)
      · rw [if_neg (show ¬ nI 2 = 0 by decide), if_neg (show ¬ nI 2 = 1 by decide), if_pos (show nI 2 = 2 from rfl), gdn (n := len 105) (show p < 6 by omega) (by decide), kp, q7, lk_1, pk_sub (by omega)]
        exact go 2 (kS (dS (aV s) p)).length _ (fun v => mkS (kK (dS (aV s) p)) (kM (dS (aV s) p)) (kC (dS (aV s) p)) (kW (dS (aV s) p)) v (kT (dS (aV s) p)) (kL (dS (aV s) p)) (kS (dS (aV s) p))) (by decide) (by omega) (by omega) (by rw [← r7]; rfl) (by rw [← r4]; rfl) q4 (fun v => rfl) (fun v hv => ⟨wf_fields hwf w2 w3 hv w5 w6, rfl, rfl, hS.s4 v, hR.s4 v⟩)
      · rw [if_neg (show ¬ nI 3 = 0 by decide), if_neg (show ¬ nI 3 = 1 by decide), if_neg (show ¬ nI 3 = 2 by decide)]
        exact go 3 100 _ (fun v => mkS (kK (dS (aV s) p)) (kM (dS (aV s) p)) (kC (dS (aV s) p)) (kW (dS (aV s) p)) (kN (dS (aV s) p)) v (kL (dS (aV s) p)) (kS (dS (aV s) p))) (by decide) (by decide) (by decide) rfl (by rw [← r5]; rfl) q5 (fun v => rfl) (fun v hv => ⟨wf_fields hwf w2 w3 w4 (by omega) w6, rfl, rfl, hS.s5 v, hR.s5 v⟩)
      · rw [if_neg (show ¬ nI 4 = 0 by decide), if_neg (show ¬ nI 4 = 1 by decide), if_neg (show ¬ nI 4 = 2 by decide)]
        exact go 4 100 _ (fun v => mkS (kK (dS (aV s) p)) (kM (dS (aV s) p)) (kC (dS (aV s) p)) (kW (dS (aV s) p)) (kN (dS (aV s) p)) (kT (dS (aV s) p)) v (kS (dS (aV s) p))) (by decide) (by decide) (by decide) rfl (by rw [← r6]; rfl) q6 (fun v => rfl) (fun v hv => ⟨wf_fields hwf w2 w3 w4 w5 (by omega), rfl, rfl, hS.s6 v, hR.s6 v⟩)
    · have n5 : ∀ j, j < 5 → ¬ x2 = nI j := fun j hj z => hb (by rw [z]; exact ⟨nI_pos (by omega), nI_lt hj (by decide)⟩)
      have c0 : ¬ x2 = 0 := n5 0 (by decide)
      have c1 : ¬ x2 = 1 := n5 1 (by decide)
      have c2 : ¬ x2 = 2 := n5 2 (by decide)
      have c3 : ¬ x2 = 3 := n5 3 (by decide)
      have c4 : ¬ x2 = 4 := n5 4 (by decide)
      unfold f_X2_bound b_X2_bound_0 b_X6_put_47
      rw [if_neg c0, if_neg c1, if_neg c2, if_neg c3, if_neg c4, bind_some_, if_neg c0, if_neg c1, if_neg c2, show f_X6_in x2 0 4 R = some false from in_no (n := 4) (by decide) hb R, bind_some_, if_neg Bool.false_ne_true]
      refine ⟨-7, M, R, ?_, rfl, fin1 hw hc hr⟩
      by_cases q : x3 < 0
      · rw [if_pos q]
      · rw [if_neg q, if_neg q]
  · rw [e1, bind_some_, oc_none_, e2, bind_some_, if_neg Bool.false_ne_true]
    exact ⟨_, _, _, rfl, rfl, fin1 hw hc hr⟩
theorem st_told {N : Nat} {M R : Mem} (hN : 160 < N) (x1 x2 : Int32) (h : Sim M R) : ∃ r M' R', f_X5_told N x1 x2 M = some (r, M') ∧ f_X6_told N x1 x2 R = some (r, R') ∧ Sim M' R' := by
  obtain ⟨s, hw, hc, hr⟩ := h
  have hc6 : dC (aV s) ≤ 6 := hw.1.1
  have hl : dL (aV s) < aX s := hw.1.2.2.2
  have hx6 : aX s ≤ 6 := hw.2.1.2.1
  have hn9 : dN (aV s) ≤ 999 := hw.1.2.2.1
  unfold f_X5_told b_X5_told_0 f_X6_told b_X6_told_0
  rcases one_b x1 hw hc hr with ⟨p, hp, rfl, e1, e2⟩ | ⟨e1, e2⟩
  · rw [e1, bind_some_, oc_some_, e2, bind_some_, if_pos rfl]
    have ki := slx_kd (wi := 1) (q := p) (by decide) (by decide) (by omega)
    have hS := hc.1.2.2.2.2 p hp
    have hR := hr.1.2.2.2.2 p hp
    have hwf := hw.1.2.1 p hp
    obtain ⟨w0, w1, w2, w3, w4, w5, w6, w7, w8⟩ := id hwf
    obtain ⟨r0, r1, r2, r3, r4, r5, r6, r7, r8⟩ := id hS
    obtain ⟨q0, q1, q2, q3, q4, q5, q6, q7, q8⟩ := id hR
    have kp : (nI p).toNatClampNeg = p := nI_clamp (by omega)
    have kt := kd_t (i := dL (aV s)) (by omega)
    have i6 : ∀ a, len a = 6 → inb (nI p) (len a) = true := fun a ha => by rw [ha]; exact inb_nI (by omega) (by decide)
    have x5 : ∀ j, (5 : Int32) * nI p + nI j = nI (5 * p + j) := fun j => by rw [show (5 : Int32) * nI p = nI (5 * p) from pk_mul 5 p, nI_add]
    have lw := theLaw_c (M := M) (law := dL (aV s)) (by omega) hc.1.2.2.1
    unfold b_X5_told_76 f_X2_part b_X2_part_0
    by_cases hneg : x2 < 0
    · have c : ∀ j, j < 2 ^ 31 → ¬ x2 = nI j := fun j hj z => nI_pos hj (z ▸ hneg)
      have c0 : ¬ x2 = 0 := c 0 (by decide)
      have c1 : ¬ x2 = 1 := c 1 (by decide)
      have c2 : ¬ x2 = 2 := c 2 (by decide)
      have c3 : ¬ x2 = 3 := c 3 (by decide)
      have c4 : ¬ x2 = 4 := c 4 (by decide)
      have c5 : ¬ x2 = 5 := c 5 (by decide)
      have c6 : ¬ x2 = 6 := c 6 (by decide)
      have c7 : ¬ x2 = 7 := c 7 (by decide)
      have c8 : ¬ x2 = 8 := c 8 (by decide)
      have c9 : ¬ x2 = 9 := c 9 (by decide)
      have c10 : ¬ x2 = 10 := c 10 (by decide)
      have c20 : x2 < (20 : Int32) := Int32.lt_of_lt_of_le hneg (by decide)
      rw [if_neg c0, if_neg c1, if_neg c2, if_neg c3, if_neg c4, if_neg c5, if_neg c6, if_neg c7, if_neg c8, if_neg c9, if_neg c10, if_pos c20]
      rw [in_r, decide_eq_false (fun z => z.1 hneg), bind_some_, if_neg Bool.false_ne_true, gd_t (i6 105 rfl), in_r, decide_eq_false (fun z => z.1 c20), bind_some_, if_neg Bool.false_ne_true, if_neg c5, if_neg c6, if_neg c7, if_neg c8, if_neg c9, if_neg c10]
      exact ⟨_, _, _, rfl, rfl, fin1 hw hc hr⟩
    · obtain ⟨k, hk, rfl⟩ := nn_ex hneg
      rw [show f_X6_in (nI k) 0 4 R = some (decide (0 ≤ k ∧ k ≤ 4)) from in_n hk (by decide) (by decide) R, bind_some_, kp, q7, show (19 : Int32) + nI (kS (dS (aV s) p)).length = nI (19 + (kS (dS (aV s) p)).length) from nI_add 19 _, show f_X6_in (nI k) 20 (nI (19 + (kS (dS (aV s) p)).length)) R = some (decide (20 ≤ k ∧ k ≤ 19 + (kS (dS (aV s) p)).length)) from in_n hk (by decide) (by omega) R, bind_some_, gd_t (i6 105 rfl), gd_t (i6 105 rfl)]
      by_cases h11 : k < 11
      · have e : k = 0 ∨ k = 1 ∨ k = 2 ∨ k = 3 ∨ k = 4 ∨ k = 5 ∨ k = 6 ∨ k = 7 ∨ k = 8 ∨ k = 9 ∨ k = 10 := by omega
        rcases e with rfl | rfl | rfl | rfl | rfl | rfl | rfl | rfl | rfl | rfl | rfl
        · rw [if_pos (show nI 0 = 0 from rfl), gd_t (isK_t ki), if_pos (show nI 0 = 0 from rfl), bind_some_, r2, if_pos (by decide), x5, gdn (n := len 103) (show 5 * p + 0 < 30 by omega) (by decide), nI_clamp (by omega)]
          exact ⟨_, _, _, rfl, by rw [show AI R 103 (5 * p + 0) = _ from q2], fin1 hw hc hr⟩
        · rw [if_neg (show ¬ nI 1 = 0 by decide), if_pos (show nI 1 = 1 from rfl), gd_t (isK_t ki), if_neg (show ¬ nI 1 = 0 by decide), if_pos (show nI 1 = 1 from rfl), bind_some_, r3, if_pos (by decide), x5, gdn (n := len 103) (show 5 * p + 1 < 30 by omega) (by decide), nI_clamp (by omega), q3]
          exact ⟨_, _, _, rfl, rfl, fin1 hw hc hr⟩
        · rw [if_neg (show ¬ nI 2 = 0 by decide), if_neg (show ¬ nI 2 = 1 by decide), if_pos (show nI 2 = 2 from rfl), gd_t (isK_t ki), if_neg (show ¬ nI 2 = 0 by decide), if_neg (show ¬ nI 2 = 1 by decide), if_pos (show nI 2 = 2 from rfl), bind_some_, r4, if_pos (by decide), x5, gdn (n := len 103) (show 5 * p + 2 < 30 by omega) (by decide), nI_clamp (by omega), q4]
          exact ⟨_, _, _, rfl, rfl, fin1 hw hc hr⟩
        · rw [if_neg (show ¬ nI 3 = 0 by decide), if_neg (show ¬ nI 3 = 1 by decide), if_neg (show ¬ nI 3 = 2 by decide), if_pos (show nI 3 = 3 from rfl), gd_t (isK_t ki), if_neg (show ¬ nI 3 = 0 by decide), if_neg (show ¬ nI 3 = 1 by decide), if_neg (show ¬ nI 3 = 2 by decide), if_pos (show nI 3 = 3 from rfl), bind_some_, r5, if_pos (by decide), x5, gdn (n := len 103) (show 5 * p + 3 < 30 by omega) (by decide), nI_clamp (by omega), q5]
          exact ⟨_, _, _, rfl, rfl, fin1 hw hc hr⟩
        · rw [if_neg (show ¬ nI 4 = 0 by decide), if_neg (show ¬ nI 4 = 1 by decide), if_neg (show ¬ nI 4 = 2 by decide), if_neg (show ¬ nI 4 = 3 by decide), if_pos (show nI 4 = 4 from rfl), gd_t (isK_t ki), if_neg (show ¬ nI 4 = 0 by decide), if_neg (show ¬ nI 4 = 1 by decide), if_neg (show ¬ nI 4 = 2 by decide), if_neg (show ¬ nI 4 = 3 by decide), bind_some_, r6, if_pos (by decide), x5, gdn (n := len 103) (show 5 * p + 4 < 30 by omega) (by decide), nI_clamp (by omega), q6]
          exact ⟨_, _, _, rfl, rfl, fin1 hw hc hr⟩
        · refine ⟨nI (kK (dS (aV s) p)), M, R, ?_, ?_, fin1 hw hc hr⟩
          · rw [if_neg (show ¬ nI 5 = 0 by decide), if_neg (show ¬ nI 5 = 1 by decide), if_neg (show ¬ nI 5 = 2 by decide), if_neg (show ¬ nI 5 = 3 by decide), if_neg (show ¬ nI 5 = 4 by decide), if_pos (show nI 5 = 5 from rfl), gd_t (isK_t ki), r0]
          · rw [decide_eq_false (show ¬ (0 ≤ 5 ∧ 5 ≤ 4) by decide), if_neg Bool.false_ne_true, decide_eq_false (show ¬ (20 ≤ 5 ∧ 5 ≤ 19 + (kS (dS (aV s) p)).length) by omega), if_neg Bool.false_ne_true, if_pos (show nI 5 = 5 from rfl), gd_t (i6 101 rfl), q0]
        · refine ⟨nI (kM (dS (aV s) p)), M, R, ?_, ?_, fin1 hw hc hr⟩
          · rw [if_neg (show ¬ nI 6 = 0 by decide), if_neg (show ¬ nI 6 = 1 by decide), if_neg (show ¬ nI 6 = 2 by decide), if_neg (show ¬ nI 6 = 3 by decide), if_neg (show ¬ nI 6 = 4 by decide), if_neg (show ¬ nI 6 = 5 by decide), if_pos (show nI 6 = 6 from rfl), gd_t (isK_t ki), r1]
          · rw [decide_eq_false (show ¬ (0 ≤ 6 ∧ 6 ≤ 4) by decide), if_neg Bool.false_ne_true, decide_eq_false (show ¬ (20 ≤ 6 ∧ 6 ≤ 19 + (kS (dS (aV s) p)).length) by omega), if_neg Bool.false_ne_true, if_neg (show ¬ nI 6 = 5 by decide), if_pos (show nI 6 = 6 from rfl), gd_t (i6 102 rfl), q1]
        · obtain ⟨g, a1⟩ := goes_c (N := N) (t := 46 + dL (aV s)) hN kt ki hS hwf (hc.2.2.1 _ hl) (hw.2.1.2.2 _ hl)
          obtain ⟨g2, g3, b1⟩ := goes_r (N := N) (q := p) (i := dL (aV s)) hN (by omega) (by omega) hr.1.2.2.1 hR hwf (hr.2.2.1 _ hl) (hw.2.1.2.2 _ hl)
          refine ⟨nI (goesS (aT s (dL (aV s))) (dS (aV s) p)), rAI M 70 g, rAI (rAI R 118 g2) 117 g3, ?_, ?_, s, hw, hc.mg hw (mg70 _ _), hr.rg hw (Rg.ga _ _ _)⟩
          · rw [if_neg (show ¬ nI 7 = 0 by decide), if_neg (show ¬ nI 7 = 1 by decide), if_neg (show ¬ nI 7 = 2 by decide), if_neg (show ¬ nI 7 = 3 by decide), if_neg (show ¬ nI 7 = 4 by decide), if_neg (show ¬ nI 7 = 5 by decide), if_neg (show ¬ nI 7 = 6 by decide), if_pos (show nI 7 = 7 from rfl), lw, bind_some_, gd_t (isK_t ki), gd_t (isK_t kt), a1, bd2_s]
          · rw [decide_eq_false (show ¬ (0 ≤ 7 ∧ 7 ≤ 4) by decide), if_neg Bool.false_ne_true, decide_eq_false (show ¬ (20 ≤ 7 ∧ 7 ≤ 19 + (kS (dS (aV s) p)).length) by omega), if_neg Bool.false_ne_true, if_neg (show ¬ nI 7 = 5 by decide), if_neg (show ¬ nI 7 = 6 by decide), if_pos (show nI 7 = 7 from rfl), b1, bd2_s]
        · obtain ⟨g, a1⟩ := minds_c (N := N) (t := 46 + dL (aV s)) hN kt ki hS hwf (hc.2.2.1 _ hl) (hw.2.1.2.2 _ hl)
          obtain ⟨g2, g3, b1⟩ := minds_r (N := N) (q := p) (i := dL (aV s)) hN (by omega) (by omega) hr.1.2.2.1 hR hwf (hr.2.2.1 _ hl) (hw.2.1.2.2 _ hl)
          refine ⟨mindsS (aT s (dL (aV s))) (dS (aV s) p), rAI M 70 g, rAI (rAI R 118 g2) 117 g3, ?_, ?_, s, hw, hc.mg hw (mg70 _ _), hr.rg hw (Rg.ga _ _ _)⟩
          · rw [if_neg (show ¬ nI 8 = 0 by decide), if_neg (show ¬ nI 8 = 1 by decide), if_neg (show ¬ nI 8 = 2 by decide), if_neg (show ¬ nI 8 = 3 by decide), if_neg (show ¬ nI 8 = 4 by decide), if_neg (show ¬ nI 8 = 5 by decide), if_neg (show ¬ nI 8 = 6 by decide), if_neg (show ¬ nI 8 = 7 by decide), if_pos (show nI 8 = 8 from rfl), lw, bind_some_, gd_t (isK_t ki), gd_t (isK_t kt), a1, bd2_s]
          · rw [decide_eq_false (show ¬ (0 ≤ 8 ∧ 8 ≤ 4) by decide), if_neg Bool.false_ne_true, decide_eq_false (show ¬ (20 ≤ 8 ∧ 8 ≤ 19 + (kS (dS (aV s) p)).length) by omega), if_neg Bool.false_ne_true, if_neg (show ¬ nI 8 = 5 by decide), if_neg (show ¬ nI 8 = 6 by decide), if_neg (show ¬ nI 8 = 7 by decide), if_pos (show nI 8 = 8 from rfl), b1, bd2_s]
        · obtain ⟨g, a1⟩ := wears_c (N := N) (t := 46 + dL (aV s)) (night := dN (aV s)) hN kt ki hS hwf (hc.2.2.1 _ hl) (hw.2.1.2.2 _ hl) (by omega)
          obtain ⟨R2, b1, b2⟩ := wears_r (N := N) (q := p) (i := dL (aV s)) (night := dN (aV s)) hN (by omega) (by omega) hr.1.2.2.1 hR hwf (hr.2.2.1 _ hl) (hw.2.1.2.2 _ hl) hr.1.2.1 (by omega)
          refine ⟨nI (wearsS (aT s (dL (aV s))) (dN (aV s)) (dS (aV s) p)), rAI M 70 g, R2, ?_, ?_, s, hw, hc.mg hw (mg70 _ _), hr.rg hw ?_⟩
          · rw [if_neg (show ¬ nI 9 = 0 by decide), if_neg (show ¬ nI 9 = 1 by decide), if_neg (show ¬ nI 9 = 2 by decide), if_neg (show ¬ nI 9 = 3 by decide), if_neg (show ¬ nI 9 = 4 by decide), if_neg (show ¬ nI 9 = 5 by decide), if_neg (show ¬ nI 9 = 6 by decide), if_neg (show ¬ nI 9 = 7 by decide), if_neg (show ¬ nI 9 = 8 by decide), if_pos (show nI 9 = 9 from rfl), lw, bind_some_, gd_t (isK_t ki), gd_t (isK_t kt), hc.1.2.1, a1, bd2_s]
          · rw [decide_eq_false (show ¬ (0 ≤ 9 ∧ 9 ≤ 4) by decide), if_neg Bool.false_ne_true, decide_eq_false (show ¬ (20 ≤ 9 ∧ 9 ≤ 19 + (kS (dS (aV s) p)).length) by omega), if_neg Bool.false_ne_true, if_neg (show ¬ nI 9 = 5 by decide), if_neg (show ¬ nI 9 = 6 by decide), if_neg (show ¬ nI 9 = 7 by decide), if_neg (show ¬ nI 9 = 8 by decide), if_pos (show nI 9 = 9 from rfl), b1, bd2_s]
          · rcases b2 with rfl | ⟨g2, g3, rfl⟩
            · exact Rg.rf _
            · exact Rg.ga _ _ _
        · refine ⟨nI ((kS (dS (aV s) p)).length), M, R, ?_, ?_, fin1 hw hc hr⟩
          · rw [if_neg (show ¬ nI 10 = 0 by decide), if_neg (show ¬ nI 10 = 1 by decide), if_neg (show ¬ nI 10 = 2 by decide), if_neg (show ¬ nI 10 = 3 by decide), if_neg (show ¬ nI 10 = 4 by decide), if_neg (show ¬ nI 10 = 5 by decide), if_neg (show ¬ nI 10 = 6 by decide), if_neg (show ¬ nI 10 = 7 by decide), if_neg (show ¬ nI 10 = 8 by decide), if_neg (show ¬ nI 10 = 9 by decide), if_pos (show nI 10 = 10 from rfl), gd_t (isK_t ki), r7]
          · rw [decide_eq_false (show ¬ (0 ≤ 10 ∧ 10 ≤ 4) by decide), if_neg Bool.false_ne_true, decide_eq_false (show ¬ (20 ≤ 10 ∧ 10 ≤ 19 + (kS (dS (aV s) p)).length) by omega), if_neg Bool.false_ne_true, if_neg (show ¬ nI 10 = 5 by decide), if_neg (show ¬ nI 10 = 6 by decide), if_neg (show ¬ nI 10 = 7 by decide), if_neg (show ¬ nI 10 = 8 by decide), if_neg (show ¬ nI 10 = 9 by decide), if_pos (show nI 10 = 10 from rfl)]
      · have c : ∀ j, j < 11 → ¬ nI k = nI j := fun j hj => neL hk (by omega) (by omega)
        have c0 : ¬ nI k = 0 := c 0 (by decide)
        have c1 : ¬ nI k = 1 := c 1 (by decide)
        have c2 : ¬ nI k = 2 := c 2 (by decide)
        have c3 : ¬ nI k = 3 := c 3 (by decide)
        have c4 : ¬ nI k = 4 := c 4 (by decide)
        have c5 : ¬ nI k = 5 := c 5 (by decide)
        have c6 : ¬ nI k = 6 := c 6 (by decide)
        have c7 : ¬ nI k = 7 := c 7 (by decide)
        have c8 : ¬ nI k = 8 := c 8 (by decide)
        have c9 : ¬ nI k = 9 := c 9 (by decide)
        have c10 : ¬ nI k = 10 := c 10 (by decide)
        rw [if_neg c0, if_neg c1, if_neg c2, if_neg c3, if_neg c4, if_neg c5, if_neg c6, if_neg c7, if_neg c8, if_neg c9, if_neg c10, decide_eq_false (show ¬ (0 ≤ k ∧ k ≤ 4) by omega), if_neg Bool.false_ne_true]
        by_cases h20 : k < 20
        · rw [if_pos (show nI k < (20 : Int32) from nI_lt (b := 20) h20 (by decide)), decide_eq_false (show ¬ (20 ≤ k ∧ k ≤ 19 + (kS (dS (aV s) p)).length) by omega), if_neg Bool.false_ne_true, if_neg c5, if_neg c6, if_neg c7, if_neg c8, if_neg c9, if_neg c10]
          exact ⟨_, _, _, rfl, rfl, fin1 hw hc hr⟩
        · rw [if_neg (show ¬ nI k < (20 : Int32) from nI_nlt (a := k) (b := 20) (by omega) hk), gd_t (isK_t ki), r7, show nI k - (20 : Int32) = nI (k - 20) from pk_sub (b := 20) (by omega), itLe (by omega) (by omega)]
          by_cases hs : (kS (dS (aV s) p)).length ≤ k - 20
          · rw [if_pos hs, decide_eq_false (show ¬ (20 ≤ k ∧ k ≤ 19 + (kS (dS (aV s) p)).length) by omega), if_neg Bool.false_ne_true, if_neg c5, if_neg c6, if_neg c7, if_neg c8, if_neg c9, if_neg c10]
            exact ⟨_, _, _, rfl, rfl, fin1 hw hc hr⟩
          · rw [if_neg hs, decide_eq_true (show 20 ≤ k ∧ k ≤ 19 + (kS (dS (aV s) p)).length by omega), if_pos rfl, stitchAt_c hS ki w7 (show k - 20 < _ by omega), bind_some_, show (16 : Int32) * nI p + nI k - (20 : Int32) = nI (16 * p + (k - 20)) by rw [show (16 : Int32) * nI p = nI (16 * p) from pk_mul 16 p, nI_add, lk_20, pk_sub (by omega), show 16 * p + k - 20 = 16 * p + (k - 20) by omega], gdn (n := len 104) (show 16 * p + (k - 20) < 96 by omega) (by decide), nI_clamp (by omega), q8 _ (by omega)]
            exact ⟨_, _, _, rfl, rfl, fin1 hw hc hr⟩
  · rw [e1, bind_some_, oc_none_, e2, bind_some_, if_neg Bool.false_ne_true]
    exact ⟨_, _, _, rfl, rfl, fin1 hw hc hr⟩
