/-! L2: image, back -/
theorem im1 {N : Nat} {R0 : Mem} : ∀ (m fu p : Nat) (g : Nat → Int32), m < fu → p + m = 30 → (∀ k, k < p → g k = AI R0 103 k) → ∃ g', b_X6_image_7 N fu (nI p) (rAI R0 109 g) = b_X6_image_33 N N 0 (rAI R0 109 g') ∧ (∀ k, k < 30 → g' k = AI R0 103 k) := by
  intro m
  induction m with
  | zero =>
    intro fu p g hf hp hg 
    obtain ⟨fu, rfl⟩ : ∃ z, fu = z + 1 := ⟨fu - 1, by omega⟩
    have : p = 30 := by omega
    subst this
    rw [b_X6_image_7, if_pos (show (30 : Int32) ≤ nI 30 by decide)]
    exact ⟨g, rfl, hg⟩
  | succ m ih =>
    intro fu p g hf hp hg 
    obtain ⟨fu, rfl⟩ : ∃ z, fu = z + 1 := ⟨fu - 1, by omega⟩
    rw [b_X6_image_7, if_neg (show ¬ (30 : Int32) ≤ nI p from nI_ge (b := 30) (by omega) (by decide)), gdn (n := len 103) (show p < 30 by omega) (by decide), gdn (n := len 109) (show p < 132 by omega) (by decide), nI_clamp (by omega), sAI_rAI, AI_rAI_n _ _ (by decide)]
    unfold b_X6_image_25
    rw [nI_1]
    refine ih fu (p + 1) _ (by omega) (by omega) (fun k hk => ?_)
    · show (if k = p then _ else g k) = _
      by_cases h : k = p
      · rw [if_pos (by omega), h]
      · rw [if_neg (by omega)]
        exact hg k (by omega)
theorem im2 {N : Nat} {R0 : Mem} : ∀ (m fu p : Nat) (g : Nat → Int32), m < fu → p + m = 96 → (∀ k, k < p → g (30 + k) = AI R0 104 k) → (∀ k, k < 30 → g k = AI R0 103 k) → ∃ g', b_X6_image_33 N fu (nI p) (rAI R0 109 g) = b_X6_image_62 N N 0 (rAI R0 109 g') ∧ (∀ k, k < 96 → g' (30 + k) = AI R0 104 k) ∧ (∀ k, k < 30 → g' k = AI R0 103 k) := by
  intro m
  induction m with
  | zero =>
    intro fu p g hf hp hg hk0
    obtain ⟨fu, rfl⟩ : ∃ z, fu = z + 1 := ⟨fu - 1, by omega⟩
    have : p = 96 := by omega
    subst this
    rw [b_X6_image_33, if_pos (show (96 : Int32) ≤ nI 96 by decide)]
    exact ⟨g, rfl, hg, hk0⟩
  | succ m ih =>
    intro fu p g hf hp hg hk0
    obtain ⟨fu, rfl⟩ : ∃ z, fu = z + 1 := ⟨fu - 1, by omega⟩
    rw [b_X6_image_33, if_neg (show ¬ (96 : Int32) ≤ nI p from nI_ge (b := 96) (by omega) (by decide)), show (30 : Int32) + nI p = nI (30 + p) from nI_add 30 p, gdn (n := len 104) (show p < 96 by omega) (by decide), gdn (n := len 109) (show 30 + p < 132 by omega) (by decide), nI_clamp (show p < 2 ^ 31 by omega), nI_clamp (show 30 + p < 2 ^ 31 by omega), sAI_rAI, AI_rAI_n _ _ (by decide)]
    unfold b_X6_image_54
    rw [nI_1]
    refine ih fu (p + 1) _ (by omega) (by omega) (fun k hk => ?_) (fun k hk => ?_)
    · show (if (30 + k) = (30 + p) then _ else g (30 + k)) = _
      by_cases h : k = p
      · rw [if_pos (by omega), h]
      · rw [if_neg (by omega)]
        exact hg k (by omega)
    · show (if k = (30 + p) then _ else g k) = _
      rw [if_neg (by omega)]
      exact hk0 k hk
theorem im3 {N : Nat} {R0 : Mem} : ∀ (m fu p : Nat) (g : Nat → Int32), m < fu → p + m = 6 → (∀ k, k < p → g (126 + k) = AI R0 105 k) → (∀ k, k < 30 → g k = AI R0 103 k) → (∀ k, k < 96 → g (30 + k) = AI R0 104 k) → ∃ g', b_X6_image_62 N fu (nI p) (rAI R0 109 g) = b_X6_image_97 N (sFJ (rAI R0 109 g') 100 16 (FJ R0 100 6)) ∧ (∀ k, k < 6 → g' (126 + k) = AI R0 105 k) ∧ (∀ k, k < 30 → g' k = AI R0 103 k) ∧ (∀ k, k < 96 → g' (30 + k) = AI R0 104 k) := by
  intro m
  induction m with
  | zero =>
    intro fu p g hf hp hg hk0 hk1
    obtain ⟨fu, rfl⟩ : ∃ z, fu = z + 1 := ⟨fu - 1, by omega⟩
    have : p = 6 := by omega
    subst this
    rw [b_X6_image_62, if_pos (show (6 : Int32) ≤ nI 6 by decide)]
    exact ⟨g, rfl, hg, hk0, hk1⟩
  | succ m ih =>
    intro fu p g hf hp hg hk0 hk1
    obtain ⟨fu, rfl⟩ : ∃ z, fu = z + 1 := ⟨fu - 1, by omega⟩
    rw [b_X6_image_62, if_neg (show ¬ (6 : Int32) ≤ nI p from nI_ge (b := 6) (by omega) (by decide)), show (126 : Int32) + nI p = nI (126 + p) from nI_add 126 p, gdn (n := len 105) (show p < 6 by omega) (by decide), gdn (n := len 109) (show 126 + p < 132 by omega) (by decide), nI_clamp (show p < 2 ^ 31 by omega), nI_clamp (show 126 + p < 2 ^ 31 by omega), sAI_rAI, AI_rAI_n _ _ (by decide)]
    unfold b_X6_image_83
    rw [nI_1]
    refine ih fu (p + 1) _ (by omega) (by omega) (fun k hk => ?_) (fun k hk => ?_) (fun k hk => ?_)
    · show (if (126 + k) = (126 + p) then _ else g (126 + k)) = _
      by_cases h : k = p
      · rw [if_pos (by omega), h]
      · rw [if_neg (by omega)]
        exact hg k (by omega)
    · show (if k = (126 + p) then _ else g k) = _
      rw [if_neg (by omega)]
      exact hk0 k hk
    · show (if (30 + k) = (126 + p) then _ else g (30 + k)) = _
      rw [if_neg (by omega)]
      exact hk1 k hk
theorem bk1 {N : Nat} {R0 : Mem} : ∀ (m fu p : Nat) (g : Nat → Int32), m < fu → p + m = 30 → (∀ k, k < p → g k = AI R0 109 k) → ∃ g', b_X6_back_12 N fu (nI p) (rAI R0 103 g) = b_X6_back_38 N N 0 (rAI R0 103 g') ∧ (∀ k, k < 30 → g' k = AI R0 109 k) := by
  intro m
  induction m with
  | zero =>
    intro fu p g hf hp hg 
    obtain ⟨fu, rfl⟩ : ∃ z, fu = z + 1 := ⟨fu - 1, by omega⟩
    have : p = 30 := by omega
    subst this
    rw [b_X6_back_12, if_pos (show (30 : Int32) ≤ nI 30 by decide)]
    exact ⟨g, rfl, hg⟩
  | succ m ih =>
    intro fu p g hf hp hg 
    obtain ⟨fu, rfl⟩ : ∃ z, fu = z + 1 := ⟨fu - 1, by omega⟩
    rw [b_X6_back_12, if_neg (show ¬ (30 : Int32) ≤ nI p from nI_ge (b := 30) (by omega) (by decide)), gdn (n := len 109) (show p < 132 by omega) (by decide), gdn (n := len 103) (show p < 30 by omega) (by decide), nI_clamp (by omega), sAI_rAI, AI_rAI_n _ _ (by decide)]
    unfold b_X6_back_30
    rw [nI_1]
    refine ih fu (p + 1) _ (by omega) (by omega) (fun k hk => ?_)
    · show (if k = p then _ else g k) = _
      by_cases h : k = p
      · rw [if_pos (by omega), h]
      · rw [if_neg (by omega)]
        exact hg k (by omega)
theorem bk2 {N : Nat} {R0 : Mem} : ∀ (m fu p : Nat) (g : Nat → Int32), m < fu → p + m = 96 → (∀ k, k < p → g k = AI R0 109 (30 + k)) → ∃ g', b_X6_back_38 N fu (nI p) (rAI R0 104 g) = b_X6_back_67 N N 0 (rAI R0 104 g') ∧ (∀ k, k < 96 → g' k = AI R0 109 (30 + k)) := by
  intro m
  induction m with
  | zero =>
    intro fu p g hf hp hg 
    obtain ⟨fu, rfl⟩ : ∃ z, fu = z + 1 := ⟨fu - 1, by omega⟩
    have : p = 96 := by omega
    subst this
    rw [b_X6_back_38, if_pos (show (96 : Int32) ≤ nI 96 by decide)]
    exact ⟨g, rfl, hg⟩
  | succ m ih =>
    intro fu p g hf hp hg 
    obtain ⟨fu, rfl⟩ : ∃ z, fu = z + 1 := ⟨fu - 1, by omega⟩
    rw [b_X6_back_38, if_neg (show ¬ (96 : Int32) ≤ nI p from nI_ge (b := 96) (by omega) (by decide)), show (30 : Int32) + nI p = nI (30 + p) from nI_add 30 p, gdn (n := len 109) (show 30 + p < 132 by omega) (by decide), gdn (n := len 104) (show p < 96 by omega) (by decide), nI_clamp (show p < 2 ^ 31 by omega), nI_clamp (show 30 + p < 2 ^ 31 by omega), sAI_rAI, AI_rAI_n _ _ (by decide)]
    unfold b_X6_back_59
    rw [nI_1]
    refine ih fu (p + 1) _ (by omega) (by omega) (fun k hk => ?_)
    · show (if k = p then _ else g k) = _
      by_cases h : k = p
      · rw [if_pos (by omega), h]
      · rw [if_neg (by omega)]
        exact hg k (by omega)
theorem bk3 {N : Nat} {R0 : Mem} : ∀ (m fu p : Nat) (g : Nat → Int32), m < fu → p + m = 6 → (∀ k, k < p → g k = AI R0 109 (126 + k)) → ∃ g', b_X6_back_67 N fu (nI p) (rAI R0 105 g) = b_X6_back_102 N (sFJ (rAI R0 105 g') 100 6 (FJ R0 100 16)) ∧ (∀ k, k < 6 → g' k = AI R0 109 (126 + k)) := by
  intro m
  induction m with
  | zero =>
    intro fu p g hf hp hg 
    obtain ⟨fu, rfl⟩ : ∃ z, fu = z + 1 := ⟨fu - 1, by omega⟩
    have : p = 6 := by omega
    subst this
    rw [b_X6_back_67, if_pos (show (6 : Int32) ≤ nI 6 by decide)]
    exact ⟨g, rfl, hg⟩
  | succ m ih =>
    intro fu p g hf hp hg 
    obtain ⟨fu, rfl⟩ : ∃ z, fu = z + 1 := ⟨fu - 1, by omega⟩
    rw [b_X6_back_67, if_neg (show ¬ (6 : Int32) ≤ nI p from nI_ge (b := 6) (by omega) (by decide)), show (126 : Int32) + nI p = nI (126 + p) from nI_add 126 p, gdn (n := len 109) (show 126 + p < 132 by omega) (by decide), gdn (n := len 105) (show p < 6 by omega) (by decide), nI_clamp (show p < 2 ^ 31 by omega), nI_clamp (show 126 + p < 2 ^ 31 by omega), sAI_rAI, AI_rAI_n _ _ (by decide)]
    unfold b_X6_back_88
    rw [nI_1]
    refine ih fu (p + 1) _ (by omega) (by omega) (fun k hk => ?_)
    · show (if k = p then _ else g k) = _
      by_cases h : k = p
      · rw [if_pos (by omega), h]
      · rw [if_neg (by omega)]
        exact hg k (by omega)
/-- the image is what is now -/
def withI (s : St) : St := (s.1, s.2.1, s.2.2.1, (true, aV s), s.2.2.2.2)
theorem wf_withI {s : St} (h : wfSt s) : wfSt (withI s) := ⟨h.1, h.2.1, h.2.2.1, fun _ => ⟨h.1, Nat.le_refl _, fun _ _ => ⟨rfl, rfl⟩⟩, h.2.2.2.2⟩
theorem st_image {N : Nat} {M R : Mem} (hN : 160 < N) (h : Sim M R) : ∃ r M' R', f_X5_image N M = some (r, M') ∧ f_X6_image N R = some (r, R') ∧ Sim M' R' := by
  obtain ⟨s, hw, hc, hr⟩ := h
  have hc6 : dC (aV s) ≤ 6 := hw.1.1
  obtain ⟨M1, a1, a2, a3⟩ := world_become (N := N) (wi := 3) (wj := 1) hN (by decide) (by decide) (by decide) (by decide) (by decide) hw.1.1 hw.1.2.1 hc.1
  unfold f_X5_image b_X5_image_0 b_X5_image_16 f_X6_image b_X6_image_0 b_X6_image_5
  obtain ⟨g1, b1, b2⟩ := im1 (N := N) (R0 := sFI R 100 14 1) 30 N 0 (AI R 109) (by omega) (by omega) (fun k hk => by omega)
  obtain ⟨g2, c1, c2, c3⟩ := im2 (N := N) (R0 := sFI R 100 14 1) 96 N 0 g1 (by omega) (by omega) (fun k hk => by omega) b2
  obtain ⟨g, d1, d2, d3, d4⟩ := im3 (N := N) (R0 := sFI R 100 14 1) 6 N 0 g2 (by omega) (by omega) (fun k hk => by omega) c3 c2
  rw [show AI R 109 = AI (sFI R 100 14 1) 109 from rfl, rAI_self] at b1
  rw [a1, bind_some_, show ((0 : Int32)) = nI 0 from rfl, b1, show ((0 : Int32)) = nI 0 from rfl, c1, show ((0 : Int32)) = nI 0 from rfl, d1]
  unfold b_X6_image_97 b_X6_image_107 b_X6_image_117 b_X6_image_127
  have kC : FI (sFI M1 0 10 1) 1 3 = nI (dC (aV s)) := by rw [FI_sFI, if_neg (fun q => by cases q.1)]; exact ((a3 1 (by unfold inW; omega)).1 3).trans hc.1.2.2.2.1
  have f0 : ∀ k, k ≠ 14 → FI (sFI R 100 14 1) 100 k = FI R 100 k := fun k hk => FI_n hk
  generalize hR' : sAI (sAI (sAI (sFJ (rAI (sFI R 100 14 1) 109 g) 100 16 (FJ (sFI R 100 14 1) 100 6)) 110 (Int32.toNatClampNeg 0) (FI (sFJ (rAI (sFI R 100 14 1) 109 g) 100 16 (FJ (sFI R 100 14 1) 100 6)) 100 0)) 110 (Int32.toNatClampNeg 1) (FI (sAI (sFJ (rAI (sFI R 100 14 1) 109 g) 100 16 (FJ (sFI R 100 14 1) 100 6)) 110 (Int32.toNatClampNeg 0) (FI (sFJ (rAI (sFI R 100 14 1) 109 g) 100 16 (FJ (sFI R 100 14 1) 100 6)) 100 0)) 100 7)) 110 (Int32.toNatClampNeg 2) (FI (sAI (sAI (sFJ (rAI (sFI R 100 14 1) 109 g) 100 16 (FJ (sFI R 100 14 1) 100 6)) 110 (Int32.toNatClampNeg 0) (FI (sFJ (rAI (sFI R 100 14 1) 109 g) 100 16 (FJ (sFI R 100 14 1) 100 6)) 100 0)) 110 (Int32.toNatClampNeg 1) (FI (sAI (sFJ (rAI (sFI R 100 14 1) 109 g) 100 16 (FJ (sFI R 100 14 1) 100 6)) 110 (Int32.toNatClampNeg 0) (FI (sFJ (rAI (sFI R 100 14 1) 109 g) 100 16 (FJ (sFI R 100 14 1) 100 6)) 100 0)) 100 7)) 100 13) = R'
  have eF : ∀ k, k ≠ 14 → FI R' 100 k = FI R 100 k := fun k hk => by rw [← hR']; exact FI_n hk
  have e14 : FI R' 100 14 = 1 := by rw [← hR']; show FI (sFI R 100 14 1) 100 14 = 1; exact FI_s
  have eJ : ∀ k, k ≠ 16 → FJ R' 100 k = FJ R 100 k := fun k hk => by rw [← hR']; show FJ (sFJ _ 100 16 _) 100 k = _; rw [FJ_sFJ, if_neg (fun q => hk q.2)]; rfl
  have e16 : FJ R' 100 16 = FJ R 100 6 := by rw [← hR']; show FJ (sFJ (rAI (sFI R 100 14 1) 109 g) 100 16 (FJ (sFI R 100 14 1) 100 6)) 100 16 = _; rw [FJ_s]; rfl
  have eA : ∀ b, b ≠ 109 → b ≠ 110 → AI R' b = AI R b := fun b h1 h2 => by rw [← hR', AI_nf h2, AI_nf h2, AI_nf h2]; exact AI_rAI_n _ _ h1
  have e109 : AI R' 109 = g := by rw [← hR', AI_nf (by decide), AI_nf (by decide), AI_nf (by decide)]; exact AI_rAI_s _ _ _
  have t0 : AI R' 110 0 = FI R 100 0 := by rw [← hR', AI_n (by decide), AI_n (by decide)]; exact AI_s
  have t1 : AI R' 110 1 = FI R 100 7 := by rw [← hR', AI_n (by decide)]; exact AI_s
  have t2 : AI R' 110 2 = FI R 100 13 := by rw [← hR']; exact AI_s
  obtain ⟨h1, h2, h3, h4, h5, h6, h7, h8⟩ := hc
  obtain ⟨q1, q2, q3, q4, q5, q6, q7, q8, q9⟩ := hr
  obtain ⟨k0, k1, k2, k3, k4⟩ := q1
  refine ⟨_, _, R', rfl, by rw [kC, eF 0 (by decide), k3], withI s, wf_withI hw, ?_, ?_⟩
  · have hm : Mx (fun a => a = 0 ∨ inW 3 a) M (sFI M1 0 10 1) := (a3.wk (fun a ha => Or.inr ha)).tr ((Mx.fi M1 0 10 1).wk (fun a ha => Or.inl ha))
    have m0 := a3 0 (by unfold inW; omega)
    have e71 := hm 71 (by unfold inW; omega)
    refine ⟨WC.mx h1 hm (by decide) (by decide) hc6 (fun a ha => by unfold inW at ha ⊢; omega), ?_, h3.mx hm hw.2.1.2.1 (fun a q1 q2 => by unfold inW; omega), ?_, fun k hk => by rw [e71.2.2]; exact h5 k hk, ?_, fun _ => ?_, fun k hk => ?_⟩
    · rw [FI_n (by decide)]; exact (m0.1 8).trans h2
    · rw [FI_n (by decide)]; exact (m0.1 9).trans h4
    · rw [FI_s]; rfl
    · exact WC.mx a2 (Mx.fi M1 0 10 1) (by decide) (by decide) hc6 (fun a ha => by unfold inW at ha; omega)
    · obtain ⟨s1, s2, s3⟩ := h8 k hk
      have e1 := hm (74 + k) (by unfold inW; omega)
      have e2 := hm (78 + k) (by unfold inW; omega)
      exact ⟨(e1.1 0).trans s1, (e1.1 1).trans s2, fun j hj => by rw [e2.2.2]; exact s3 j hj⟩
  · refine ⟨⟨(eJ 6 (by decide)).trans k0, (eF 7 (by decide)).trans k1, (eF 13 (by decide)).trans k2, (eF 0 (by decide)).trans k3, fun q hq => ?_⟩, (eF 12 (by decide)).trans q2, fun i hi => ?_, (eF 9 (by decide)).trans q4, fun k hk => ?_, ?_, fun _ => ⟨e16.trans k0, t0.trans k3, t1.trans k1, t2.trans k2, fun q hq => ?_⟩, fun k hk => ?_, fun k hk => ?_⟩
    · have := k4 q hq
      unfold RR at this ⊢
      rw [eA 101 (by decide) (by decide), eA 102 (by decide) (by decide), eA 103 (by decide) (by decide), eA 104 (by decide) (by decide), eA 105 (by decide) (by decide)]
      exact this
    · have := q3 i hi
      unfold RTr at this ⊢
      rw [eA 107 (by decide) (by decide), eA 108 (by decide) (by decide)]
      exact this
    · rw [eA 106 (by decide) (by decide)]; exact q5 k hk
    · rw [e14]; rfl
    · have hq : q < dC (aV s) := hq
      obtain ⟨r0, r1, r2, r3, r4, r5, r6, r7, r8⟩ := k4 q hq
      have h16 : (kS (dS (aV s) q)).length ≤ 16 := (hw.1.2.1 q hq).2.2.2.2.2.2.2.1
      unfold RI
      rw [e109]
      exact ⟨(d3 _ (by omega)).trans r2, (d3 _ (by omega)).trans r3, (d3 _ (by omega)).trans r4, (d3 _ (by omega)).trans r5, (d3 _ (by omega)).trans r6, (d2 _ (by omega)).trans r7, fun k hk => (d4 _ (by have hk : k < (kS (dS (aV s) q)).length := hk; omega)).trans (r8 k hk)⟩
    · have := q8 k hk
      rw [eA 111 (by decide) (by decide), eA 112 (by decide) (by decide), eA 113 (by decide) (by decide)]
      exact this
    · rw [eA 115 (by decide) (by decide)]; exact q9 k hk
theorem st_back {N : Nat} {M R : Mem} (hN : 160 < N) (h : Sim M R) : ∃ r M' R', f_X5_back N M = some (r, M') ∧ f_X6_back N R = some (r, R') ∧ Sim M' R' := by
  obtain ⟨s, hw, hc, hr⟩ := h
  have k10 : FI M 0 10 = b2i (aI s) := hc.2.2.2.2.2.1
  have k14 : FI R 100 14 = b2i (aI s) := hr.2.2.2.2.2.1
  unfold f_X5_back b_X5_back_0 f_X6_back b_X6_back_0
  rw [k10, k14]
  by_cases hi : aI s = true
  · obtain ⟨hj, hjc, hjk⟩ := hw.2.2.2.1 hi
    have hc6 : dC (aJ s) ≤ 6 := hj.1
    obtain ⟨M1, a1, a2, a3⟩ := world_become (N := N) (wi := 1) (wj := 3) hN (by decide) (by decide) (by decide) (by decide) (by decide) hj.1 hj.2.1 (hc.2.2.2.2.2.2.1 hi)
    obtain ⟨i1, i2, i3, i4, i5⟩ := hr.2.2.2.2.2.2.1 hi
    obtain ⟨g1, b1, b2⟩ := bk1 (N := N) (R0 := R) 30 N 0 (AI R 103) (by omega) (by omega) (fun k hk => by omega)
    obtain ⟨g2, c1, c2⟩ := bk2 (N := N) (R0 := rAI R 103 g1) 96 N 0 (AI R 104) (by omega) (by omega) (fun k hk => by omega)
    obtain ⟨g3, d1, d2⟩ := bk3 (N := N) (R0 := rAI (rAI R 103 g1) 104 g2) 6 N 0 (AI R 105) (by omega) (by omega) (fun k hk => by omega)
    rw [rAI_self] at b1
    rw [show AI R 104 = AI (rAI R 103 g1) 104 from rfl, rAI_self] at c1
    rw [show AI R 105 = AI (rAI (rAI R 103 g1) 104 g2) 105 from rfl, rAI_self] at d1
    rw [hi, if_neg (show ¬ b2i true = 0 by decide), if_neg (show ¬ b2i true = 0 by decide), a1, bind_some_, show ((0 : Int32)) = nI 0 from rfl, b1, show ((0 : Int32)) = nI 0 from rfl, c1, show ((0 : Int32)) = nI 0 from rfl, d1]
    unfold b_X6_back_102 b_X6_back_112 b_X6_back_122 b_X6_back_132
    generalize hR' : sFI (sFI (sFI (sFJ (rAI (rAI (rAI R 103 g1) 104 g2) 105 g3) 100 6 (FJ (rAI (rAI R 103 g1) 104 g2) 100 16)) 100 0 (AI (sFJ (rAI (rAI (rAI R 103 g1) 104 g2) 105 g3) 100 6 (FJ (rAI (rAI R 103 g1) 104 g2) 100 16)) 110 (Int32.toNatClampNeg 0))) 100 7 (AI (sFI (sFJ (rAI (rAI (rAI R 103 g1) 104 g2) 105 g3) 100 6 (FJ (rAI (rAI R 103 g1) 104 g2) 100 16)) 100 0 (AI (sFJ (rAI (rAI (rAI R 103 g1) 104 g2) 105 g3) 100 6 (FJ (rAI (rAI R 103 g1) 104 g2) 100 16)) 110 (Int32.toNatClampNeg 0))) 110 (Int32.toNatClampNeg 1))) 100 13 (AI (sFI (sFI (sFJ (rAI (rAI (rAI R 103 g1) 104 g2) 105 g3) 100 6 (FJ (rAI (rAI R 103 g1) 104 g2) 100 16)) 100 0 (AI (sFJ (rAI (rAI (rAI R 103 g1) 104 g2) 105 g3) 100 6 (FJ (rAI (rAI R 103 g1) 104 g2) 100 16)) 110 (Int32.toNatClampNeg 0))) 100 7 (AI (sFI (sFJ (rAI (rAI (rAI R 103 g1) 104 g2) 105 g3) 100 6 (FJ (rAI (rAI R 103 g1) 104 g2) 100 16)) 100 0 (AI (sFJ (rAI (rAI (rAI R 103 g1) 104 g2) 105 g3) 100 6 (FJ (rAI (rAI R 103 g1) 104 g2) 100 16)) 110 (Int32.toNatClampNeg 0))) 110 (Int32.toNatClampNeg 1))) 110 (Int32.toNatClampNeg 2)) = R'
    have kC : FI M1 1 3 = nI (dC (aJ s)) := a2.2.2.2.1
    have l13 : AI (rAI (rAI (rAI R 103 g1) 104 g2) 105 g3) 110 = AI R 110 := rfl
    have eF : ∀ k, k ≠ 0 → k ≠ 7 → k ≠ 13 → FI R' 100 k = FI R 100 k := fun k h1 h2 h3 => by rw [← hR', FI_n h3, FI_n h2, FI_n h1]; rfl
    have e13 : FI R' 100 13 = nI (dL (aJ s)) := by rw [← hR', FI_s]; exact i4
    have e7 : FI R' 100 7 = nI (dN (aJ s)) := by rw [← hR', FI_n (by decide), FI_s]; exact i3
    have e0 : FI R' 100 0 = nI (dC (aJ s)) := by rw [← hR', FI_n (by decide), FI_n (by decide), FI_s]; exact i2
    have eJ : ∀ k, k ≠ 6 → FJ R' 100 k = FJ R 100 k := fun k hk => by rw [← hR']; show FJ (sFJ _ 100 6 _) 100 k = _; rw [FJ_sFJ, if_neg (fun q => hk q.2)]; rfl
    have e6 : FJ R' 100 6 = dW (aJ s) := by rw [← hR']; show FJ (sFJ (rAI (rAI (rAI R 103 g1) 104 g2) 105 g3) 100 6 (FJ (rAI (rAI R 103 g1) 104 g2) 100 16)) 100 6 = _; rw [FJ_s]; exact i1
    have eA : ∀ b, b ≠ 103 → b ≠ 104 → b ≠ 105 → AI R' b = AI R b := fun b h1 h2 h3 => by
      rw [← hR']
      show AI (rAI (rAI (rAI R 103 g1) 104 g2) 105 g3) b = _
      rw [AI_rAI_n _ _ h3, AI_rAI_n _ _ h2, AI_rAI_n _ _ h1]
    have e103 : AI R' 103 = g1 := by
      rw [← hR']
      show AI (rAI (rAI (rAI R 103 g1) 104 g2) 105 g3) 103 = _
      rw [AI_rAI_n _ _ (by decide), AI_rAI_n _ _ (by decide), AI_rAI_s]
    have e104 : AI R' 104 = g2 := by
      rw [← hR']
      show AI (rAI (rAI (rAI R 103 g1) 104 g2) 105 g3) 104 = _
      rw [AI_rAI_n _ _ (by decide), AI_rAI_s]
    have e105 : AI R' 105 = g3 := by
      rw [← hR']
      show AI (rAI (rAI (rAI R 103 g1) 104 g2) 105 g3) 105 = _
      rw [AI_rAI_s]
    have f2 : ∀ k, k < 96 → g2 k = AI R 109 (30 + k) := fun k hk => (c2 k hk).trans (by rw [AI_rAI_n _ _ (by decide)])
    have f3 : ∀ k, k < 6 → g3 k = AI R 109 (126 + k) := fun k hk => (d2 k hk).trans (by rw [AI_rAI_n _ _ (by decide), AI_rAI_n _ _ (by decide)])
    refine ⟨_, M1, R', rfl, by rw [kC, e0], withV s (aJ s), ?_, hc.vw hw (a3.wk (fun a ha => Or.inl ha)) a2, hr.vw ⟨fun k h0 h7 h13 _ _ => eF k h0 h7 h13, eJ, fun b hb _ _ _ => eA b (by omega) (by omega) (by omega)⟩ ⟨e6, e7, e13, e0, fun q hq => ?_⟩⟩
    · exact ⟨hj, hw.2.1, hw.2.2.1, fun hi => ⟨hj, Nat.le_refl _, fun _ _ => ⟨rfl, rfl⟩⟩, hw.2.2.2.2⟩
    · obtain ⟨r1, r2, r3, r4, r5, r6, r7⟩ := i5 q hq
      obtain ⟨j1, j2⟩ := hjk q hq
      have kr := hr.1.2.2.2.2 q (Nat.lt_of_lt_of_le hq hjc)
      have h16 : (kS (dS (aJ s) q)).length ≤ 16 := (hj.2.1 q hq).2.2.2.2.2.2.2.1
      refine ⟨?_, ?_, ?_, ?_, ?_, ?_, ?_, ?_, fun k hk => ?_⟩
      · rw [eA 101 (by decide) (by decide) (by decide), j1]; exact kr.1
      · rw [eA 102 (by decide) (by decide) (by decide), j2]; exact kr.2.1
      · rw [e103]; exact (b2 _ (by omega)).trans r1
      · rw [e103]; exact (b2 _ (by omega)).trans r2
      · rw [e103]; exact (b2 _ (by omega)).trans r3
      · rw [e103]; exact (b2 _ (by omega)).trans r4
      · rw [e103]; exact (b2 _ (by omega)).trans r5
      · rw [e105]; exact (f3 _ (by omega)).trans r6
      · rw [e104]; exact (f2 _ (by omega)).trans (r7 k hk)
  · rw [Bool.not_eq_true] at hi
    rw [hi, if_pos (show b2i false = 0 from rfl), if_pos (show b2i false = 0 from rfl)]
    exact ⟨_, M, R, rfl, rfl, fin1 hw hc hr⟩
