/-! L2: asks, sleeper, put, told, darn -/
theorem mg70 (M : Mem) (g : Nat → Int32) : Mx gC M (rAI M 70 g) := (Mx.ra M 70 g).wk (fun a ha => by unfold gC; omega)
theorem Rg.ga (R : Mem) (g g' : Nat → Int32) : Rg R (rAI (rAI R 118 g) 117 g') := ⟨fun _ _ _ => rfl, fun _ => rfl, fun b _ h2 h3 _ => by rw [AI_rAI_n _ _ h2, AI_rAI_n _ _ h3], fun k _ => by rw [AI_rAI_n _ _ (by decide), AI_rAI_n _ _ (by decide)]⟩
theorem st_asks {N : Nat} {M R : Mem} (hN : 160 < N) (x1 x2 : Int32) (h : Sim M R) : ∃ r M' R', f_X5_asks N x1 x2 M = some (r, M') ∧ f_X6_asks N x1 x2 R = some (r, R') ∧ Sim M' R' := by
  obtain ⟨s, hw, hc, hr⟩ := h
  have hc6 : dC (aV s) ≤ 6 := hw.1.1
  have hl : dL (aV s) < aX s := hw.1.2.2.2
  have hx6 : aX s ≤ 6 := hw.2.1.2.1
  unfold f_X5_asks b_X5_asks_0 f_X6_asks b_X6_asks_0
  rcases one_b x2 hw hc hr with ⟨p, hp, rfl, e1, e2⟩ | ⟨e1, e2⟩
  · rw [e1, bind_some_, oc_some_]
    rcases rg_b x1 3 (by decide) with ⟨k, hk, rfl⟩ | hb
    · obtain ⟨g, a1⟩ := says_c (N := N) (t := 46 + dL (aV s)) (j := slx 1 p) hN hk (kd_t (by omega)) (slx_kd (by decide) (by decide) (by omega)) (hc.1.2.2.2.2 p hp) (hw.1.2.1 p hp) (hc.2.2.1 _ hl) (hw.2.1.2.2 _ hl)
      obtain ⟨g2, g3, b1⟩ := asks_r (N := N) (q := p) (i := dL (aV s)) hN hk (by omega) (by omega) hr.1.2.2.1 (hr.1.2.2.2.2 p hp) (hw.1.2.1 p hp) (hr.2.2.1 _ hl) (hw.2.1.2.2 _ hl)
      rw [show f_X6_in (nI k) 0 2 R = some true from in_yes (n := 2) (by decide) (by omega) R, bind_some_, if_pos rfl, e2, bind_some_, if_pos rfl, if_neg (nI_pos (by omega)), if_pos (show nI k < (3 : Int32) from nI_lt (b := 3) hk (by decide)), theLaw_c (by omega) hc.1.2.2.1, bind_some_, gd_t (isK_t (kd_t (by omega))), gd_t (isK_t (slx_kd (by decide) (by decide) (by omega))), a1, bd2_s, b1, bd2_s]
      exact ⟨_, _, _, rfl, rfl, s, hw, hc.mg hw (mg70 _ _), hr.rg hw (Rg.ga _ _ _)⟩
    · rw [show f_X6_in x1 0 2 R = some false from in_no (n := 2) (by decide) hb R, bind_some_, if_neg Bool.false_ne_true]
      refine ⟨-1000, M, R, ?_, rfl, s, hw, hc, hr⟩
      by_cases q : x1 < 0
      · rw [if_pos q]
      · rw [if_neg q, if_neg (show ¬ x1 < (3 : Int32) from fun z => hb ⟨q, z⟩)]
  · rw [e1, bind_some_, oc_none_, e2]
    refine ⟨-1000, M, R, rfl, ?_, s, hw, hc, hr⟩
    rw [in_r, bind_some_]
    split
    · rw [bind_some_, if_neg Bool.false_ne_true]
    · rfl
theorem arrive_c {M : Mem} {a k c : Nat} (ha : kd a = 2) (hk : k < 60) (hc : c < 634) : ∃ M', f_X2_arrive a (nI k) (nI c) M = some M' ∧ RS M' a (mkS (k / 10) (k % 10) (c / 10) (c % 10) 0 0 99 [0]) ∧ Mx (fun b => b = a ∨ b = a + 19) M M' := by
  unfold f_X2_arrive b_X2_arrive_0 b_X2_arrive_8 b_X2_arrive_16 b_X2_arrive_24 b_X2_arrive_32 b_X2_arrive_37 b_X2_arrive_42 b_X2_arrive_48 b_X2_arrive_53
  have e10 : (10 : Int32) = nI 10 := rfl
  rw [e10, remI (by omega) (by decide) (by decide), remI (by omega) (by decide) (by decide), pk_div (by omega) (by decide) (by decide), pk_div (by omega) (by decide) (by decide), gd_t (by rw [n_2_9 ha]; rfl)]
  refine ⟨_, rfl, ⟨?_, ?_, ?_, ?_, ?_, ?_, ?_, ?_, fun j hj => ?_⟩, fun b hb => ⟨fun j => ?_, fun j => rfl, ?_⟩⟩
  · rw [FI_sAI, FI_n (by decide), FI_n (by decide), FI_n (by decide), FI_n (by decide), FI_n (by decide), FI_n (by decide), FI_n (by decide), FI_s]; rfl
  · rw [FI_sAI, FI_n (by decide), FI_n (by decide), FI_n (by decide), FI_n (by decide), FI_n (by decide), FI_n (by decide), FI_s]; rfl
  · rw [FI_sAI, FI_n (by decide), FI_n (by decide), FI_n (by decide), FI_n (by decide), FI_n (by decide), FI_s]; rfl
  · rw [FI_sAI, FI_n (by decide), FI_n (by decide), FI_n (by decide), FI_n (by decide), FI_s]; rfl
  · rw [FI_sAI, FI_n (by decide), FI_n (by decide), FI_n (by decide), FI_s]; rfl
  · rw [FI_sAI, FI_n (by decide), FI_n (by decide), FI_s]; rfl
  · rw [FI_sAI, FI_n (by decide), FI_s]; rfl
  · rw [FI_sAI, FI_s]; rfl
  · have hj1 : j < 1 := hj
    have : j = 0 := by omega
    subst this
    exact AI_s
  · have hba : b ≠ a := fun q => hb (Or.inl q)
    simp only [FI_sAI, FI_sFI, hba, false_and, if_false]
  · rw [AI_nf (fun q => hb (Or.inr q))]
    rfl
theorem wfS_new {k c : Nat} (hk : k < 60) (hc : c < 640) (hw : c % 10 < 4) : wfS (mkS (k / 10) (k % 10) (c / 10) (c % 10) 0 0 99 [0]) := by
  refine ⟨?_, ?_, ?_, hw, Nat.zero_lt_one, Nat.zero_le _, Nat.le_refl _, show 1 ≤ 16 by decide, fun j hj => ?_⟩
  · show k / 10 < 6; omega
  · show k % 10 < 10; omega
  · show c / 10 < 64; omega
  · have hj1 : j < 1 := hj
    have : j = 0 := by omega
    subst this
    show 0 < 5
    decide
theorem st_sleeper {M R : Mem} (x1 x2 : Int32) (h : Sim M R) : ∃ r M' R', f_X5_sleeper x1 x2 M = some (r, M') ∧ f_X6_sleeper x1 x2 R = some (r, R') ∧ Sim M' R' := by
  obtain ⟨s, hw, hc, hr⟩ := h
  have hc6 : dC (aV s) ≤ 6 := hw.1.1
  have kC0 : FI M 1 3 = nI (dC (aV s)) := hc.1.2.2.2.1
  have kR0 : FI R 100 0 = nI (dC (aV s)) := hr.1.2.2.2.1
  have e10 : (10 : Int32) = nI 10 := rfl
  unfold f_X5_sleeper b_X5_sleeper_0 f_X6_sleeper b_X6_sleeper_0 f_X5_isKindMore b_X5_isKindMore_0 f_X5_isCellWay b_X5_isCellWay_0
  rcases rg_b x1 60 (by decide) with ⟨k, hk, rfl⟩ | hb
  · rw [show (60 : Int32) = nI 60 from rfl, cl_yes hk (by decide), bind_some_, if_pos rfl, show f_X6_in (nI k) 0 59 R = some true from in_yes (n := 59) (by decide) (by omega) R, bind_some_, if_pos rfl]
    rcases rg_b x2 634 (by decide) with ⟨c, hc4, rfl⟩ | hb
    · rw [show (640 : Int32) = nI 640 from rfl, cl_yes (by omega) (by decide), show f_X6_in (nI c) 0 633 R = some true from in_yes (n := 633) (by decide) (by omega) R, bind_some_, if_pos rfl, e10, remI (by omega) (by decide) (by decide), show (4 : Int32) = nI 4 from rfl, show (3 : Int32) = nI 3 from rfl, itLe (by decide) (by omega), itLe (by omega) (by decide)]
      by_cases hcw : c % 10 < 4
      · rw [if_neg (show ¬ 4 ≤ c % 10 by omega), bind_some_, if_pos rfl, if_pos (show c % 10 ≤ 3 by omega), kC0, kR0]
        by_cases h6 : dC (aV s) = 6
        · rw [h6, if_neg (show ¬ nI 6 < (6 : Int32) by decide), if_pos (show nI 6 = (6 : Int32) from rfl)]
          exact ⟨_, _, _, rfl, rfl, fin1 hw hc hr⟩
        · rw [if_pos (show nI (dC (aV s)) < (6 : Int32) from nI_lt (b := 6) (by omega) (by decide)), if_neg (show ¬ nI (dC (aV s)) = (6 : Int32) from fun z => h6 ((nI_eq (b := 6) (by omega) (by decide)).mp z))]
          have ki := slx_kd (wi := 1) (q := dC (aV s)) (by decide) (by decide) (by omega)
          have si := slx_eq (wi := 1) (by decide) (by decide) (dC (aV s))
          obtain ⟨M1, a1, a2, a3⟩ := arrive_c (M := M) ki hk hc4
          have k31 : FI M1 1 3 = nI (dC (aV s)) := ((a3 1 (by omega)).1 3).trans kC0
          unfold f_X4_add b_X4_add_0
          rw [kC0, if_neg (nI_pos (by omega)), if_pos (show nI (dC (aV s)) < (6 : Int32) from nI_lt (b := 6) (by omega) (by decide)), gdn (n := len (1 + 41)) (show dC (aV s) < 6 by omega) (by decide), nI_clamp (by omega), gd_t (isK_t (show kd (AR (1 + 41) (dC (aV s))) = 2 from ki)), show f_X2_arrive (AR (1 + 41) (dC (aV s))) (nI k) (nI c) M = some M1 from a1, bind_some_, k31]
          unfold b_X4_add_43
          rw [bd2_s, FI_s, nI_1]
          have x50 : (5 : Int32) * nI (dC (aV s)) = nI (5 * dC (aV s)) := pk_mul 5 _
          have x16 : (16 : Int32) * nI (dC (aV s)) = nI (16 * dC (aV s)) := pk_mul 16 _
          have x51 : nI (5 * dC (aV s)) + 1 = nI (5 * dC (aV s) + 1) := nI_1 _
          have x52 : nI (5 * dC (aV s)) + 2 = nI (5 * dC (aV s) + 2) := nI_add _ 2
          have x53 : nI (5 * dC (aV s)) + nI 3 = nI (5 * dC (aV s) + 3) := nI_add _ 3
          have x54 : nI (5 * dC (aV s)) + nI 4 = nI (5 * dC (aV s) + 4) := nI_add _ 4
          have kp : (nI (dC (aV s))).toNatClampNeg = dC (aV s) := nI_clamp (by omega)
          have i6 : ∀ a, len a = 6 → inb (nI (dC (aV s))) (len a) = true := fun a ha => by rw [ha]; exact inb_nI (by omega) (by decide)
          have fa : ∀ (R : Mem) (a j : Nat) (v : Int32), FI (sAI R a j v) 100 0 = FI R 100 0 := fun _ _ _ _ => rfl
          rw [gd_t (i6 101 rfl)]
          unfold b_X6_sleeper_57
          rw [fa, kR0, gd_t (i6 102 rfl), kp, e10, remI (by omega) (by decide) (by decide), pk_div (by omega) (by decide) (by decide)]
          unfold b_X6_sleeper_70
          rw [fa, fa, kR0, x50, gdn (n := len 103) (show 5 * dC (aV s) < 30 by omega) (by decide), nI_clamp (by omega), e10, pk_div (by omega) (by decide) (by decide)]
          unfold b_X6_sleeper_85
          rw [fa, fa, fa, kR0, x50, x51, gdn (n := len 103) (show 5 * dC (aV s) + 1 < 30 by omega) (by decide), nI_clamp (by omega), e10, remI (by omega) (by decide) (by decide)]
          unfold b_X6_sleeper_102
          rw [fa, fa, fa, fa, kR0, x50, x52, gdn (n := len 103) (show 5 * dC (aV s) + 2 < 30 by omega) (by decide), nI_clamp (by omega)]
          unfold b_X6_sleeper_116
          rw [fa, fa, fa, fa, fa, kR0, x50, show (3 : Int32) = nI 3 from rfl, x53, gdn (n := len 103) (show 5 * dC (aV s) + 3 < 30 by omega) (by decide), nI_clamp (by omega)]
          unfold b_X6_sleeper_130
          rw [fa, fa, fa, fa, fa, fa, kR0, x50, show (4 : Int32) = nI 4 from rfl, x54, gdn (n := len 103) (show 5 * dC (aV s) + 4 < 30 by omega) (by decide), nI_clamp (by omega)]
          unfold b_X6_sleeper_145
          rw [fa, fa, fa, fa, fa, fa, fa, kR0, gd_t (i6 105 rfl), kp]
          unfold b_X6_sleeper_155
          rw [fa, fa, fa, fa, fa, fa, fa, fa, kR0, x16, gdn (n := len 104) (show 16 * dC (aV s) < 96 by omega) (by decide), nI_clamp (by omega)]
          unfold b_X6_sleeper_168
          rw [fa, fa, fa, fa, fa, fa, fa, fa, fa, kR0, nI_1]
          unfold b_X6_sleeper_178
          rw [FI_s]
          refine ⟨_, _, _, rfl, rfl, withV s (mkV (dC (aV s) + 1) (setF (dS (aV s)) (dC (aV s)) (mkS (k / 10) (k % 10) (c / 10) (c % 10) 0 0 99 [0])) (dW (aV s)) (dN (aV s)) (dL (aV s))), ?_, ?_, ?_⟩
          · refine wf_vw hw ⟨?_, ?_, hw.1.2.2.1, hw.1.2.2.2⟩ (Nat.le_succ _) (fun q hq => ?_)
            · show dC (aV s) + 1 ≤ 6
              omega
            · intro q hq
              have hq : q < dC (aV s) + 1 := hq
              show wfS (setF (dS (aV s)) (dC (aV s)) _ q)
              by_cases e : q = dC (aV s)
              · rw [e, setF_s]
                exact wfS_new hk (by omega) hcw
              · rw [setF_n _ _ e]
                exact hw.1.2.1 q (by omega)
            · show kK (setF (dS (aV s)) (dC (aV s)) _ q) = _ ∧ kM (setF (dS (aV s)) (dC (aV s)) _ q) = _
              rw [setF_n _ _ (by omega)]
              exact ⟨rfl, rfl⟩
          · have m2 : Mx (fun a => a = 1 ∨ a = slx 1 (dC (aV s)) ∨ a = slx 1 (dC (aV s)) + 19 ∨ gC a) M (sFI M1 1 3 (nI (dC (aV s) + 1))) := (a3.wk (fun a ha => ha.elim (fun z => Or.inr (Or.inl z)) (fun z => Or.inr (Or.inr (Or.inl z))))).tr ((Mx.fi M1 1 3 _).wk (fun a ha => Or.inl ha))
            have e1 := a3 1 (by omega)
            refine hc.one hw (by omega) (by omega) (fun q hq hne => by omega) m2 ?_ ?_ ?_ FI_s ?_
            · exact (e1.2.1 0).trans hc.1.1
            · rw [FI_n (by decide)]; exact (e1.1 1).trans hc.1.2.1
            · rw [FI_n (by decide)]; exact (e1.1 2).trans hc.1.2.2.1
            · exact a2.mx (Mx.fi M1 1 3 _) (by omega) (by omega)
          · generalize hR2 : sAI (sAI (sAI (sAI (sAI (sAI (sAI (sAI (sAI R 101 (dC (aV s)) (nI (k / 10))) 102 (dC (aV s)) (nI (k % 10))) 103 (5 * dC (aV s)) (nI (c / 10))) 103 (5 * dC (aV s) + 1) (nI (c % 10))) 103 (5 * dC (aV s) + 2) 0) 103 (5 * dC (aV s) + 3) 0) 103 (5 * dC (aV s) + 4) 99) 105 (dC (aV s)) 1) 104 (16 * dC (aV s)) 0 = R2
            have mp : Mp R R2 (dC (aV s)) := by
              rw [← hR2]
              exact ((((((((Mp.kind R _ _).tr (Mp.more _ _ _)).tr (Mp.row _ _ (by omega) (by omega))).tr (Mp.row _ _ (by omega) (by omega))).tr (Mp.row _ _ (by omega) (by omega))).tr (Mp.row _ _ (by omega) (by omega))).tr (Mp.row _ _ (by omega) (by omega))).tr (Mp.size _ _ _)).tr (Mp.sock _ _ (by omega) (by omega))
            have rr : RR R2 (dC (aV s)) (mkS (k / 10) (k % 10) (c / 10) (c % 10) 0 0 99 [0]) := by
              rw [← hR2]
              refine ⟨?_, ?_, ?_, ?_, ?_, ?_, ?_, ?_, fun j hj => ?_⟩
              · rw [AI_na (by decide), AI_na (by decide), AI_na (by decide), AI_na (by decide), AI_na (by decide), AI_na (by decide), AI_na (by decide), AI_na (by decide), AI_s]; rfl
              · rw [AI_na (by decide), AI_na (by decide), AI_na (by decide), AI_na (by decide), AI_na (by decide), AI_na (by decide), AI_na (by decide), AI_s]; rfl
              · rw [AI_na (by decide), AI_na (by decide), AI_n (by omega), AI_n (by omega), AI_n (by omega), AI_n (by omega), AI_s]; rfl
              · rw [AI_na (by decide), AI_na (by decide), AI_n (by omega), AI_n (by omega), AI_n (by omega), AI_s]; rfl
              · rw [AI_na (by decide), AI_na (by decide), AI_n (by omega), AI_n (by omega), AI_s]; rfl
              · rw [AI_na (by decide), AI_na (by decide), AI_n (by omega), AI_s]; rfl
              · rw [AI_na (by decide), AI_na (by decide), AI_s]; rfl
              · rw [AI_na (by decide), AI_s]; rfl
              · have hj1 : j < 1 := hj
                have : j = 0 := by omega
                subst this
                exact AI_s
            refine hr.vw ⟨fun j h0 _ _ _ _ => (FI_n h0).trans (mp.1 j), fun j _ => mp.2.1 j, fun b hb _ _ _ => mp.2.2.1 b hb⟩ ⟨(mp.2.1 6).trans hr.1.1, (FI_n (by decide)).trans ((mp.1 7).trans hr.1.2.1), (FI_n (by decide)).trans ((mp.1 13).trans hr.1.2.2.1), FI_s, fun q hq => ?_⟩
            have hq : q < dC (aV s) + 1 := hq
            show RR R2 q (setF (dS (aV s)) (dC (aV s)) _ q)
            by_cases e : q = dC (aV s)
            · rw [e, setF_s]; exact rr
            · rw [setF_n _ _ e]
              exact (hr.1.2.2.2.2 q (by omega)).mp (hw.1.2.1 q (by omega)).2.2.2.2.2.2.2.1 mp e
      · rw [if_pos (show 4 ≤ c % 10 by omega), bind_some_, if_neg Bool.false_ne_true, if_neg (show ¬ c % 10 ≤ 3 by omega)]
        exact ⟨_, _, _, rfl, rfl, fin1 hw hc hr⟩
    · rw [show f_X6_in x2 0 633 R = some false from in_no (n := 633) (by decide) hb R, bind_some_, if_neg Bool.false_ne_true]
      refine ⟨-2, M, R, ?_, rfl, fin1 hw hc hr⟩
      rcases rg_b x2 640 (by decide) with ⟨c, hc4, rfl⟩ | hb2
      · have h634 : 634 ≤ c := by
          by_cases q : 634 ≤ c
          · exact q
          · exact absurd (show ¬ nI c < 0 ∧ nI c < nI 634 from ⟨nI_pos (by omega), nI_lt (by omega) (by decide)⟩) hb
        rw [show (640 : Int32) = nI 640 from rfl, cl_yes (by omega) (by decide), e10, remI (by omega) (by decide) (by decide), if_pos (show (4 : Int32) ≤ nI (c % 10) from nI_le (a := 4) (by omega) (by omega)), bind_some_, if_neg Bool.false_ne_true]
      · rw [show (640 : Int32) = nI 640 from rfl, cl_no hb2, bind_some_, if_neg Bool.false_ne_true]
  · rw [show (60 : Int32) = nI 60 from rfl, cl_no hb, bind_some_, if_neg Bool.false_ne_true, show f_X6_in x1 0 59 R = some false from in_no (n := 59) (by decide) hb R, bind_some_, if_neg Bool.false_ne_true]
    exact ⟨_, _, _, rfl, rfl, fin1 hw hc hr⟩
