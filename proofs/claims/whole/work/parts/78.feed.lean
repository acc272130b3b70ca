/-! L2: feed -/
theorem byte_b (x : Int32) (M R : Mem) : (∃ k : Nat, k < 256 ∧ x = nI k ∧ f_X5_isByte x M = some true ∧ f_X6_isByte x R = some true) ∨ (f_X5_isByte x M = some false ∧ f_X6_isByte x R = some false) := by
  unfold f_X5_isByte b_X5_isByte_0 f_X6_isByte b_X6_isByte_0
  rw [show (255 : Int32) = nI 255 from rfl]
  rcases rg_b x 256 (by decide) with ⟨k, hk, rfl⟩ | hb
  · left
    exact ⟨k, hk, rfl, cl_yes2 (by omega) (by decide), by rw [in_yes (n := 255) (by decide) (by omega) R, bind_some_]⟩
  · right
    exact ⟨cl_no2 (by decide) hb, by rw [in_no (n := 255) (by decide) hb R, bind_some_]⟩
theorem feed125_r {N : Nat} {x1 x2 x3 x4 x5 x6 x7 : Int32} {k68 : Int32 → Mem → Option (Int32 × Mem)} {R : Mem} {s : St} {v : Nat} (h : RrS R s) (hp : aP s < 160) : b_X6_feed_125 N x1 x2 x3 x4 x5 x6 k68 x7 (FI R 100 9) (nI v) R = k68 (x7 + 1) (sFI (sAI R 106 (aP s) (nI v)) 100 9 (nI (aP s + 1))) := by
  have h9 : FI R 100 9 = nI (aP s) := h.2.2.2.1
  unfold b_X6_feed_125 b_X6_feed_126 b_X6_feed_136
  rw [h9, gdn (n := len 106) (show aP s < 160 from hp) (by decide), nI_clamp (by omega), FI_sAI, h9, nI_1]
theorem feed_go {N : Nat} {M R : Mem} {s : St} (hN : 160 < N) (hw : wfSt s) (hc : RcS M s) (hr : RrS R s) {n v1 v2 v3 v4 v5 : Nat} (h1 : v1 < 256) (h2 : v2 < 256) (h3 : v3 < 256) (h4 : v4 < 256) (h5 : v5 < 256) (hn0 : 1 ≤ n) (hn : n ≤ 5) (hp : aP s + n ≤ 160) :
    ∃ r M' R', ((f_X5_feedOne (nI v1) M).bind fun M68 => (if nI n ≤ (1 : Int32) then b_X5_feed_81 (nI n) (nI v1) (nI v2) (nI v3) (nI v4) (nI v5) M68 else (f_X5_feedOne (nI v2) M68).bind fun M78 => b_X5_feed_81 (nI n) (nI v1) (nI v2) (nI v3) (nI v4) (nI v5) M78)) = some (r, M') ∧ b_X6_feed_68 N (nI n) (nI v1) (nI v2) (nI v3) (nI v4) (nI v5) N (0 : Int32) R = some (r, R') ∧ Sim M' R' := by
  obtain ⟨fu, rfl⟩ : ∃ z, N = z + 10 := ⟨N - 10, by omega⟩
  unfold b_X5_feed_81 b_X5_feed_92 b_X5_feed_103 b_X5_feed_114
  have e : n = 1 ∨ n = 2 ∨ n = 3 ∨ n = 4 ∨ n = 5 := by omega
  obtain ⟨M1, a1, c1⟩ := feedOne_c (v := v1) hc hw (by omega)
  have w1 := wf_withP (v := v1) hw (by omega) h1
  have r1 := feedOne_r (v := v1) hr (by omega)
  have p1 : aP (withP s v1) = aP s + 1 := rfl
  rcases e with rfl | rfl | rfl | rfl | rfl
  · rw [a1, bind_some_, if_pos (show nI 1 ≤ (1 : Int32) by decide), if_pos (show nI 1 ≤ (2 : Int32) by decide), if_pos (show nI 1 ≤ (3 : Int32) by decide), if_pos (show nI 1 ≤ (4 : Int32) by decide), b_X6_feed_68, if_neg (show ¬ nI 1 ≤ 0 by decide), if_pos rfl, feed125_r hr (by omega), show (0 : Int32) + 1 = nI 1 from rfl, b_X6_feed_68, if_pos (show nI 1 ≤ nI 1 by decide)]
    exact ⟨_, _, _, rfl, by rw [show FI M1 0 9 = _ from c1.2.2.2.1, FI_s]; rfl, _, w1, c1, r1⟩
  · obtain ⟨M2, a2, c2⟩ := feedOne_c (v := v2) c1 w1 (by omega)
    have w2 := wf_withP (v := v2) w1 (by omega) h2
    have r2 := feedOne_r (v := v2) r1 (by omega)
    have p2 : aP (withP (withP s v1) v2) = aP s + 2 := rfl
    rw [a1, bind_some_, if_neg (show ¬ nI 2 ≤ (1 : Int32) by decide), a2, bind_some_, if_pos (show nI 2 ≤ (2 : Int32) by decide), if_pos (show nI 2 ≤ (3 : Int32) by decide), if_pos (show nI 2 ≤ (4 : Int32) by decide), b_X6_feed_68, if_neg (show ¬ nI 2 ≤ 0 by decide), if_pos rfl, feed125_r hr (by omega), show (0 : Int32) + 1 = nI 1 from rfl, b_X6_feed_68, if_neg (show ¬ nI 2 ≤ nI 1 by decide), if_neg (show ¬ nI 1 = (0 : Int32) by decide), if_pos (show nI 1 = (1 : Int32) from rfl), feed125_r r1 (by omega), show (nI 1 : Int32) + 1 = nI 2 from rfl, b_X6_feed_68, if_pos (show nI 2 ≤ nI 2 by decide)]
    exact ⟨_, _, _, rfl, by rw [show FI M2 0 9 = _ from c2.2.2.2.1, FI_s]; rfl, _, w2, c2, r2⟩
  · obtain ⟨M2, a2, c2⟩ := feedOne_c (v := v2) c1 w1 (by omega)
    have w2 := wf_withP (v := v2) w1 (by omega) h2
    have r2 := feedOne_r (v := v2) r1 (by omega)
    have p2 : aP (withP (withP s v1) v2) = aP s + 2 := rfl
    obtain ⟨M3, a3, c3⟩ := feedOne_c (v := v3) c2 w2 (by omega)
    have w3 := wf_withP (v := v3) w2 (by omega) h3
    have r3 := feedOne_r (v := v3) r2 (by omega)
    have p3 : aP (withP (withP (withP s v1) v2) v3) = aP s + 3 := rfl
    rw [a1, bind_some_, if_neg (show ¬ nI 3 ≤ (1 : Int32) by decide), a2, bind_some_, if_neg (show ¬ nI 3 ≤ (2 : Int32) by decide), a3, bind_some_, if_pos (show nI 3 ≤ (3 : Int32) by decide), if_pos (show nI 3 ≤ (4 : Int32) by decide), b_X6_feed_68, if_neg (show ¬ nI 3 ≤ 0 by decide), if_pos rfl, feed125_r hr (by omega), show (0 : Int32) + 1 = nI 1 from rfl, b_X6_feed_68, if_neg (show ¬ nI 3 ≤ nI 1 by decide), if_neg (show ¬ nI 1 = (0 : Int32) by decide), if_pos (show nI 1 = (1 : Int32) from rfl), feed125_r r1 (by omega), show (nI 1 : Int32) + 1 = nI 2 from rfl, b_X6_feed_68, if_neg (show ¬ nI 3 ≤ nI 2 by decide), if_neg (show ¬ nI 2 = (0 : Int32) by decide), if_neg (show ¬ nI 2 = (1 : Int32) by decide), if_pos (show nI 2 = (2 : Int32) from rfl), feed125_r r2 (by omega), show (nI 2 : Int32) + 1 = nI 3 from rfl, b_X6_feed_68, if_pos (show nI 3 ≤ nI 3 by decide)]
    exact ⟨_, _, _, rfl, by rw [show FI M3 0 9 = _ from c3.2.2.2.1, FI_s]; rfl, _, w3, c3, r3⟩
  · obtain ⟨M2, a2, c2⟩ := feedOne_c (v := v2) c1 w1 (by omega)
    have w2 := wf_withP (v := v2) w1 (by omega) h2
    have r2 := feedOne_r (v := v2) r1 (by omega)
    have p2 : aP (withP (withP s v1) v2) = aP s + 2 := rfl
    obtain ⟨M3, a3, c3⟩ := feedOne_c (v := v3) c2 w2 (by omega)
    have w3 := wf_withP (v := v3) w2 (by omega) h3
    have r3 := feedOne_r (v := v3) r2 (by omega)
    have p3 : aP (withP (withP (withP s v1) v2) v3) = aP s + 3 := rfl
    obtain ⟨M4, a4, c4⟩ := feedOne_c (v := v4) c3 w3 (by omega)
    have w4 := wf_withP (v := v4) w3 (by omega) h4
    have r4 := feedOne_r (v := v4) r3 (by omega)
    have p4 : aP (withP (withP (withP (withP s v1) v2) v3) v4) = aP s + 4 := rfl
    rw [a1, bind_some_, if_neg (show ¬ nI 4 ≤ (1 : Int32) by decide), a2, bind_some_, if_neg (show ¬ nI 4 ≤ (2 : Int32) by decide), a3, bind_some_, if_neg (show ¬ nI 4 ≤ (3 : Int32) by decide), a4, bind_some_, if_pos (show nI 4 ≤ (4 : Int32) by decide), b_X6_feed_68, if_neg (show ¬ nI 4 ≤ 0 by decide), if_pos rfl, feed125_r hr (by omega), show (0 : Int32) + 1 = nI 1 from rfl, b_X6_feed_68, if_neg (show ¬ nI 4 ≤ nI 1 by decide), if_neg (show ¬ nI 1 = (0 : Int32) by decide), if_pos (show nI 1 = (1 : Int32) from rfl), feed125_r r1 (by omega), show (nI 1 : Int32) + 1 = nI 2 from rfl, b_X6_feed_68, if_neg (show ¬ nI 4 ≤ nI 2 by decide), if_neg (show ¬ nI 2 = (0 : Int32) by decide), if_neg (show ¬ nI 2 = (1 : Int32) by decide), if_pos (show nI 2 = (2 : Int32) from rfl), feed125_r r2 (by omega), show (nI 2 : Int32) + 1 = nI 3 from rfl, b_X6_feed_68, if_neg (show ¬ nI 4 ≤ nI 3 by decide), if_neg (show ¬ nI 3 = (0 : Int32) by decide), if_neg (show ¬ nI 3 = (1 : Int32) by decide), if_neg (show ¬ nI 3 = (2 : Int32) by decide), if_pos (show nI 3 = (3 : Int32) from rfl), feed125_r r3 (by omega), show (nI 3 : Int32) + 1 = nI 4 from rfl, b_X6_feed_68, if_pos (show nI 4 ≤ nI 4 by decide)]
    exact ⟨_, _, _, rfl, by rw [show FI M4 0 9 = _ from c4.2.2.2.1, FI_s]; rfl, _, w4, c4, r4⟩
  · obtain ⟨M2, a2, c2⟩ := feedOne_c (v := v2) c1 w1 (by omega)
    have w2 := wf_withP (v := v2) w1 (by omega) h2
    have r2 := feedOne_r (v := v2) r1 (by omega)
    have p2 : aP (withP (withP s v1) v2) = aP s + 2 := rfl
    obtain ⟨M3, a3, c3⟩ := feedOne_c (v := v3) c2 w2 (by omega)
    have w3 := wf_withP (v := v3) w2 (by omega) h3
    have r3 := feedOne_r (v := v3) r2 (by omega)
    have p3 : aP (withP (withP (withP s v1) v2) v3) = aP s + 3 := rfl
    obtain ⟨M4, a4, c4⟩ := feedOne_c (v := v4) c3 w3 (by omega)
    have w4 := wf_withP (v := v4) w3 (by omega) h4
    have r4 := feedOne_r (v := v4) r3 (by omega)
    have p4 : aP (withP (withP (withP (withP s v1) v2) v3) v4) = aP s + 4 := rfl
    obtain ⟨M5, a5, c5⟩ := feedOne_c (v := v5) c4 w4 (by omega)
    have w5 := wf_withP (v := v5) w4 (by omega) h5
    have r5 := feedOne_r (v := v5) r4 (by omega)
    have p5 : aP (withP (withP (withP (withP (withP s v1) v2) v3) v4) v5) = aP s + 5 := rfl
    rw [a1, bind_some_, if_neg (show ¬ nI 5 ≤ (1 : Int32) by decide), a2, bind_some_, if_neg (show ¬ nI 5 ≤ (2 : Int32) by decide), a3, bind_some_, if_neg (show ¬ nI 5 ≤ (3 : Int32) by decide), a4, bind_some_, if_neg (show ¬ nI 5 ≤ (4 : Int32) by decide), a5, bind_some_, b_X6_feed_68, if_neg (show ¬ nI 5 ≤ 0 by decide), if_pos rfl, feed125_r hr (by omega), show (0 : Int32) + 1 = nI 1 from rfl, b_X6_feed_68, if_neg (show ¬ nI 5 ≤ nI 1 by decide), if_neg (show ¬ nI 1 = (0 : Int32) by decide), if_pos (show nI 1 = (1 : Int32) from rfl), feed125_r r1 (by omega), show (nI 1 : Int32) + 1 = nI 2 from rfl, b_X6_feed_68, if_neg (show ¬ nI 5 ≤ nI 2 by decide), if_neg (show ¬ nI 2 = (0 : Int32) by decide), if_neg (show ¬ nI 2 = (1 : Int32) by decide), if_pos (show nI 2 = (2 : Int32) from rfl), feed125_r r2 (by omega), show (nI 2 : Int32) + 1 = nI 3 from rfl, b_X6_feed_68, if_neg (show ¬ nI 5 ≤ nI 3 by decide), if_neg (show ¬ nI 3 = (0 : Int32) by decide), if_neg (show ¬ nI 3 = (1 : Int32) by decide), if_neg (show ¬ nI 3 = (2 : Int32) by decide), if_pos (show nI 3 = (3 : Int32) from rfl), feed125_r r3 (by omega), show (nI 3 : Int32) + 1 = nI 4 from rfl, b_X6_feed_68, if_neg (show ¬ nI 5 ≤ nI 4 by decide), if_neg (show ¬ nI 4 = (0 : Int32) by decide), if_neg (show ¬ nI 4 = (1 : Int32) by decide), if_neg (show ¬ nI 4 = (2 : Int32) by decide), if_neg (show ¬ nI 4 = (3 : Int32) by decide), feed125_r r4 (by omega), show (nI 4 : Int32) + 1 = nI 5 from rfl, b_X6_feed_68, if_pos (show nI 5 ≤ nI 5 by decide)]
    exact ⟨_, _, _, rfl, by rw [show FI M5 0 9 = _ from c5.2.2.2.1, FI_s]; rfl, _, w5, c5, r5⟩
theorem st_feed {N : Nat} {M R : Mem} (hN : 160 < N) (x1 x2 x3 x4 x5 x6 : Int32) (h : Sim M R) : ∃ r M' R', f_X5_feed x1 x2 x3 x4 x5 x6 M = some (r, M') ∧ f_X6_feed N x1 x2 x3 x4 x5 x6 R = some (r, R') ∧ Sim M' R' := by
  obtain ⟨s, hw, hc, hr⟩ := h
  have hP : aP s ≤ 160 := hw.2.2.1.1
  have h9 : FI R 100 9 = nI (aP s) := hr.2.2.2.1
  have g9 : FI M 0 9 = nI (aP s) := hc.2.2.2.1
  have bad : Sim M R := ⟨s, hw, hc, hr⟩
  unfold f_X5_feed b_X5_feed_0 f_X6_feed b_X6_feed_0
  by_cases q0 : x1 < (1 : Int32)
  · rw [if_pos q0, in_r, decide_eq_false (fun z => z.1 q0), bind_some_, if_neg Bool.false_ne_true]
    exact ⟨_, M, R, rfl, rfl, bad⟩
  by_cases q5 : (5 : Int32) < x1
  · rw [if_neg q0, if_pos q5, in_r, decide_eq_false (fun z => z.2 q5), bind_some_, if_neg Bool.false_ne_true]
    exact ⟨_, M, R, rfl, rfl, bad⟩
  rw [if_neg q0, if_neg q5, in_r, decide_eq_true ⟨q0, q5⟩, bind_some_, if_pos rfl]
  obtain ⟨n, hn, rfl⟩ := nn_ex (x := x1) (fun z => q0 (Int32.lt_trans z (by decide)))
  have hn1 : 1 ≤ n := by
    rw [lk_1, ltI hn (by decide)] at q0
    omega
  have hn5 : n ≤ 5 := by
    rw [lk_5, ltI (by decide) hn] at q5
    omega
  rcases byte_b x2 M R with ⟨v1, h1, rfl, a1, b1⟩ | ⟨a1, b1⟩
  rotate_left
  · rw [a1, b1, bind_some_, bind_some_, if_neg Bool.false_ne_true, if_neg Bool.false_ne_true]
    exact ⟨_, M, R, rfl, rfl, bad⟩
  rw [a1, b1, bind_some_, bind_some_, if_pos rfl, if_pos rfl]
  rcases byte_b x3 M R with ⟨v2, h2, rfl, a2, b2⟩ | ⟨a2, b2⟩
  rotate_left
  · rw [a2, b2, bind_some_, bind_some_, if_neg Bool.false_ne_true, if_neg Bool.false_ne_true]
    exact ⟨_, M, R, rfl, rfl, bad⟩
  rw [a2, b2, bind_some_, bind_some_, if_pos rfl, if_pos rfl]
  rcases byte_b x4 M R with ⟨v3, h3, rfl, a3, b3⟩ | ⟨a3, b3⟩
  rotate_left
  · rw [a3, b3, bind_some_, bind_some_, if_neg Bool.false_ne_true, if_neg Bool.false_ne_true]
    exact ⟨_, M, R, rfl, rfl, bad⟩
  rw [a3, b3, bind_some_, bind_some_, if_pos rfl, if_pos rfl]
  rcases byte_b x5 M R with ⟨v4, h4, rfl, a4, b4⟩ | ⟨a4, b4⟩
  rotate_left
  · rw [a4, b4, bind_some_, bind_some_, if_neg Bool.false_ne_true, if_neg Bool.false_ne_true]
    exact ⟨_, M, R, rfl, rfl, bad⟩
  rw [a4, b4, bind_some_, bind_some_, if_pos rfl, if_pos rfl]
  rcases byte_b x6 M R with ⟨v5, h5, rfl, a5, b5⟩ | ⟨a5, b5⟩
  rotate_left
  · rw [a5, b5, bind_some_, bind_some_, if_neg Bool.false_ne_true, if_neg Bool.false_ne_true]
    exact ⟨_, M, R, rfl, rfl, bad⟩
  rw [a5, b5, bind_some_, bind_some_, if_pos rfl, if_pos rfl]
  rw [g9, h9, nI_add, show (160 : Int32) = nI 160 from rfl, itLe (by omega) (by decide), itLe (by omega) (by decide)]
  by_cases hp : aP s + n ≤ 160
  · rw [if_pos hp, if_pos hp]
    exact feed_go hN hw hc hr h1 h2 h3 h4 h5 hn1 hn5 hp
  · rw [if_neg hp, if_neg hp]
    exact ⟨_, M, R, rfl, rfl, bad⟩
