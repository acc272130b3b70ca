/-! L2: steps of the law that write the truth's numbers -/
def withV (s : St) (v : Wd) : St := (v, s.2)
def mkV (cnt : Nat) (σf : Nat → Sl) (w : Int64) (night law : Nat) : Wd := (cnt, σf, w, night, law)
theorem wf_vw {s : St} {v : Wd} (h : wfSt s) (hv : wfWd v (aX s)) (hc : dC (aV s) ≤ dC v) (hk : ∀ q, q < dC (aV s) → kK (dS v q) = kK (dS (aV s) q) ∧ kM (dS v q) = kM (dS (aV s) q)) : wfSt (withV s v) :=
  ⟨hv, h.2.1, h.2.2.1, fun hi => ⟨(h.2.2.2.1 hi).1, Nat.le_trans (h.2.2.2.1 hi).2.1 hc, fun q hq => by
    have h1 := (h.2.2.2.1 hi).2.2 q hq
    have h2 := hk q (Nat.lt_of_lt_of_le hq (h.2.2.2.1 hi).2.1)
    exact ⟨h1.1.trans h2.1.symm, h1.2.trans h2.2.symm⟩⟩, h.2.2.2.2⟩
theorem RcS.vw {M M' : Mem} {s : St} {v : Wd} (h : RcS M s) (hw : wfSt s) (hm : Mx (fun a => inW 1 a ∨ gC a) M M') (hv : WCv M' 1 v) : RcS M' (withV s v) := by
  obtain ⟨h1, h2, h3, h4, h5, h6, h7, h8⟩ := h
  have e0 := hm 0 (by unfold gC inW; omega)
  have e71 := hm 71 (by unfold gC inW; omega)
  refine ⟨hv, (e0.1 8).trans h2, h3.mx hm hw.2.1.2.1 (fun a q1 q2 => by unfold gC inW; omega), (e0.1 9).trans h4, fun k hk => by rw [e71.2.2]; exact h5 k hk, (e0.1 10).trans h6, fun hi => WC.mx (h7 hi) hm (by decide) (by decide) (hw.2.2.2.1 hi).1.1 (fun a ha => by unfold inW at ha; unfold gC inW; omega), fun k hk => ?_⟩
  obtain ⟨a1, a2, a3⟩ := h8 k hk
  have e1 := hm (74 + k) (by unfold gC inW; omega)
  have e2 := hm (78 + k) (by unfold gC inW; omega)
  exact ⟨(e1.1 0).trans a1, (e1.1 1).trans a2, fun j hj => by rw [e2.2.2]; exact a3 j hj⟩
/-- R' is R but for the truth and what thoughts write -/
def Mv (R R' : Mem) : Prop := (∀ k, k ≠ 0 → k ≠ 7 → k ≠ 13 → k ≠ 34 → k ≠ 36 → FI R' 100 k = FI R 100 k) ∧ (∀ k, k ≠ 6 → FJ R' 100 k = FJ R 100 k) ∧ ∀ b, (b < 101 ∨ 105 < b) → b ≠ 117 → b ≠ 118 → b ≠ 120 → AI R' b = AI R b
theorem Mv.mt {R R' : Mem} (h : Mt R R') : Mv R R' := ⟨fun k _ h7 _ h34 h36 => h.1 k h34 h7 h36, h.2.1, fun b hb h1 h2 _ => h.2.2 b (by omega) h1 h2⟩
theorem RrS.vw {R R' : Mem} {s : St} {v : Wd} (h : RrS R s) (hm : Mv R R') (hv : WRv R' v) : RrS R' (withV s v) := by
  obtain ⟨h1, h2, h3, h4, h5, h6, h7, h8, h9⟩ := h
  obtain ⟨m1, m2, m3⟩ := hm
  have F : ∀ k, k ≠ 0 → k ≠ 7 → k ≠ 13 → k ≠ 34 → k ≠ 36 → FI R' 100 k = FI R 100 k := m1
  have A : ∀ b, 105 < b → b ≠ 117 → b ≠ 118 → b ≠ 120 → AI R' b = AI R b := fun b hb => m3 b (Or.inr hb)
  refine ⟨hv, (F 12 (by decide) (by decide) (by decide) (by decide) (by decide)).trans h2, fun i hi => ?_, (F 9 (by decide) (by decide) (by decide) (by decide) (by decide)).trans h4, fun k hk => ?_, (F 14 (by decide) (by decide) (by decide) (by decide) (by decide)).trans h6, fun hi => ?_, fun k hk => ?_, fun k hk => ?_⟩
  · obtain ⟨t1, t2, t3⟩ := h3 i hi
    have e1 := A 107 (by decide) (by decide) (by decide) (by decide)
    have e2 := A 108 (by decide) (by decide) (by decide) (by decide)
    exact ⟨fun p hp k hk => by rw [e1]; exact t1 p hp k hk, fun p hp => by rw [e2]; exact t2 p hp, by rw [e2]; exact t3⟩
  · rw [A 106 (by decide) (by decide) (by decide) (by decide)]; exact h5 k hk
  · obtain ⟨i1, i2, i3, i4, i5⟩ := h7 hi
    have e1 := A 110 (by decide) (by decide) (by decide) (by decide)
    have e2 := A 109 (by decide) (by decide) (by decide) (by decide)
    refine ⟨(m2 16 (by decide)).trans i1, by rw [e1]; exact i2, by rw [e1]; exact i3, by rw [e1]; exact i4, fun q hq => ?_⟩
    obtain ⟨r1, r2, r3, r4, r5, r6, r7⟩ := i5 q hq
    exact ⟨by rw [e2]; exact r1, by rw [e2]; exact r2, by rw [e2]; exact r3, by rw [e2]; exact r4, by rw [e2]; exact r5, by rw [e2]; exact r6, fun k hk => by rw [e2]; exact r7 k hk⟩
  · obtain ⟨a1, a2, a3⟩ := h8 k hk
    have e1 := A 111 (by decide) (by decide) (by decide) (by decide)
    have e2 := A 112 (by decide) (by decide) (by decide) (by decide)
    have e3 := A 113 (by decide) (by decide) (by decide) (by decide)
    exact ⟨by rw [e1]; exact a1, by rw [e2]; exact a2, fun j hj => by rw [e3]; exact a3 j hj⟩
  · rw [A 115 (by decide) (by decide) (by decide) (by decide)]; exact h9 k hk
theorem RcS.sc {M M' : Mem} {s : St} {w : Int64} {night law : Nat} (h : RcS M s) (hw : wfSt s) (hm : Mx (fun a => a = 1) M M') (e0 : FJ M' 1 0 = w) (e1 : FI M' 1 1 = nI night) (e2 : FI M' 1 2 = nI law) (e3 : FI M' 1 3 = FI M 1 3) : RcS M' (withV s (mkV (dC (aV s)) (dS (aV s)) w night law)) := by
  obtain ⟨k0, k1, k2, k3, k4⟩ := h.1
  have hc : dC (aV s) ≤ 6 := hw.1.1
  refine h.vw hw (hm.wk (fun a ha => Or.inl (Or.inl ha))) ⟨e0, e1, e2, e3.trans k3, fun q hq => ?_⟩
  have hq : q < dC (aV s) := hq
  have := slx_eq (show 1 ≤ 1 from Nat.le_refl 1) (show 1 ≤ 3 by decide) q
  exact (k4 q hq).mx hm (by omega) (by omega)
theorem RrS.sc {R R' : Mem} {s : St} {w : Int64} {night law : Nat} (h : RrS R s) (m1 : ∀ k, k ≠ 7 → k ≠ 13 → FI R' 100 k = FI R 100 k) (m2 : ∀ k, k ≠ 6 → FJ R' 100 k = FJ R 100 k) (m3 : ∀ b, AI R' b = AI R b) (e0 : FJ R' 100 6 = w) (e1 : FI R' 100 7 = nI night) (e2 : FI R' 100 13 = nI law) : RrS R' (withV s (mkV (dC (aV s)) (dS (aV s)) w night law)) := by
  obtain ⟨k0, k1, k2, k3, k4⟩ := h.1
  refine h.vw ⟨fun k _ h7 h13 _ _ => m1 k h7 h13, m2, fun b _ _ _ _ => m3 b⟩ ⟨e0, e1, e2, (m1 0 (by decide) (by decide)).trans k3, fun q hq => ?_⟩
  obtain ⟨r0, r1, r2, r3, r4, r5, r6, r7, r8⟩ := k4 q hq
  refine ⟨?_, ?_, ?_, ?_, ?_, ?_, ?_, ?_, fun k hk => ?_⟩ <;> rw [m3]
  · exact r0
  · exact r1
  · exact r2
  · exact r3
  · exact r4
  · exact r5
  · exact r6
  · exact r7
  · exact r8 k hk
theorem in_r (x a b : Int32) (M : Mem) : f_X6_in x a b M = some (decide (¬ x < a ∧ ¬ b < x)) := by
  unfold f_X6_in b_X6_in_0
  by_cases h1 : x < a
  · rw [if_pos h1, decide_eq_false (fun q => q.1 h1)]
  · rw [if_neg h1]
    by_cases h2 : b < x
    · rw [if_pos h2, decide_eq_false (fun q => q.2 h2)]
    · rw [if_neg h2, decide_eq_true ⟨h1, h2⟩]
theorem wf_sc {s : St} {w : Int64} {night law : Nat} (h : wfSt s) (hn : night ≤ 999) (hl : law < aX s) : wfSt (withV s (mkV (dC (aV s)) (dS (aV s)) w night law)) :=
  wf_vw h ⟨h.1.1, h.1.2.1, hn, hl⟩ (Nat.le_refl _) (fun _ _ => ⟨rfl, rfl⟩)
theorem mx_1 (M : Mem) (k : Nat) (v : Int32) : Mx (fun a => a = 1) M (sFI M 1 k v) := fun a ha => ⟨fun j => by rw [FI_sFI, if_neg (fun q => ha q.1)], fun _ => rfl, rfl⟩
theorem st_dusk {M R : Mem} (x : Int32) (h : Sim M R) : ∃ r M' R', f_X5_dusk x M = some (r, M') ∧ f_X6_dusk x R = some (r, R') ∧ Sim M' R' := by
  obtain ⟨s, hw, hc, hr⟩ := h
  unfold f_X5_dusk b_X5_dusk_0 f_X6_dusk b_X6_dusk_0
  rw [in_r, bind_some_]
  by_cases c0 : x < 0
  · rw [if_pos c0, decide_eq_false (fun q => q.1 c0), if_neg Bool.false_ne_true]
    exact ⟨_, M, R, rfl, rfl, s, hw, hc, hr⟩
  rw [if_neg c0]
  by_cases c1 : x ≤ 999
  · obtain ⟨k, hk, rfl⟩ : ∃ k : Nat, k ≤ 999 ∧ x = nI k := by
      rcases ix_cases x (n := 1000) (by decide) with q | ⟨_, q⟩ | ⟨j, q1, q2⟩
      · exact absurd q c0
      · exact absurd (Int32.le_trans q c1) (by decide)
      · exact ⟨j, by omega, q2⟩
    rw [if_pos c1, decide_eq_true ⟨c0, Int32.not_lt.mpr c1⟩, if_pos rfl, hc.1.2.1, hr.1.2.1]
    refine ⟨_, _, _, rfl, rfl, _, wf_sc (w := dW (aV s)) (night := k) hw hk hw.1.2.2.2, hc.sc hw (mx_1 M 1 _) hc.1.1 (by rw [FI_s]) ((FI_n (by decide)).trans hc.1.2.2.1) (FI_n (by decide)), hr.sc (fun j h7 _ => FI_n h7) (fun _ _ => rfl) (fun _ => rfl) hr.1.1 (by rw [FI_s]) ((FI_n (by decide)).trans hr.1.2.2.1)⟩
  · rw [if_neg c1, decide_eq_false (fun q => c1 (Int32.not_lt.mp q.2)), if_neg Bool.false_ne_true]
    exact ⟨_, M, R, rfl, rfl, s, hw, hc, hr⟩
theorem st_force {M R : Mem} (x : Int32) (h : Sim M R) : ∃ r M' R', f_X5_force x M = some (r, M') ∧ f_X6_force x R = some (r, R') ∧ Sim M' R' := by
  obtain ⟨s, hw, hc, hr⟩ := h
  unfold f_X5_force b_X5_force_0 f_X6_force b_X6_force_0
  have hx1 : 1 ≤ aX s := hw.2.1.1
  have hx6 : aX s ≤ 6 := hw.2.1.2.1
  rw [in_r, bind_some_, hc.2.1, hr.2.1, show (nI (aX s) - 1 : Int32) = nI (aX s - 1) by rw [lk_1, pk_sub hx1]]
  rcases ix_cases x (n := aX s) (by omega) with q | ⟨q0, q⟩ | ⟨j, q1, rfl⟩
  · rw [if_pos q, decide_eq_false (fun z => z.1 q), if_neg Bool.false_ne_true]
    exact ⟨_, M, R, rfl, rfl, s, hw, hc, hr⟩
  · rw [if_neg q0, if_neg (Int32.not_lt.mpr q), decide_eq_false (fun z => by
      have := Int32.le_trans q (Int32.not_lt.mp z.2)
      rw [leI (by omega) (by omega)] at this
      omega), if_neg Bool.false_ne_true]
    exact ⟨_, M, R, rfl, rfl, s, hw, hc, hr⟩
  · rw [if_neg (nI_pos (by omega)), if_pos ((nI_ltI (by omega) (by omega)).mpr q1), decide_eq_true ⟨nI_pos (by omega), fun z => by
      rw [ltI (by omega) (by omega)] at z
      omega⟩, if_pos rfl, hc.1.2.2.1, hr.1.2.2.1]
    refine ⟨_, _, _, rfl, rfl, _, wf_sc (w := dW (aV s)) (law := j) hw hw.1.2.2.1 q1, hc.sc hw (mx_1 M 2 _) hc.1.1 ((FI_n (by decide)).trans hc.1.2.1) (by rw [FI_s]) (FI_n (by decide)), hr.sc (fun j _ h13 => FI_n h13) (fun _ _ => rfl) (fun _ => rfl) hr.1.1 ((FI_n (by decide)).trans hr.1.2.1) (by rw [FI_s])⟩
theorem step_k {w : Int64} {σ : Sl} : kK (stepS w σ).2 = kK σ ∧ kM (stepS w σ).2 = kM σ ∧ kS (stepS w σ).2 = kS σ := by
  unfold stepS
  dsimp only
  split
  · exact ⟨rfl, rfl, rfl⟩
  · split
    · exact ⟨rfl, rfl, rfl⟩
    · split
      · exact ⟨rfl, rfl, rfl⟩
      · exact ⟨rfl, rfl, rfl⟩
theorem go_k {w : Int64} : ∀ (n : Nat) (σ : Sl), kK (goS w n σ).2.1 = kK σ ∧ kM (goS w n σ).2.1 = kM σ ∧ kS (goS w n σ).2.1 = kS σ
  | 0, _ => ⟨rfl, rfl, rfl⟩
  | n + 1, σ => by
    have h := step_k (w := w) (σ := σ)
    have g := go_k (w := w) n (stepS w σ).2
    unfold goS
    split
    · exact ⟨g.1.trans h.1, g.2.1.trans h.2.1, g.2.2.trans h.2.2⟩
    · exact h
theorem walk_k {x : Txt} {night : Nat} {w : Int64} {σ : Sl} : kK (walkS x night w σ).2.1 = kK σ ∧ kM (walkS x night w σ).2.1 = kM σ ∧ kS (walkS x night w σ).2.1 = kS σ := go_k (w := w) (goesS x σ) σ
theorem st_night {N : Nat} {M R : Mem} (hN : 160 < N) (h : Sim M R) : ∃ r M' R', f_X5_night N M = some (r, M') ∧ f_X6_night N R = some (r, R') ∧ Sim M' R' := by
  obtain ⟨s, hw, hc, hr⟩ := h
  have hn : dN (aV s) ≤ 999 := hw.1.2.2.1
  have hx6 : aX s ≤ 6 := hw.2.1.2.1
  have hl : dL (aV s) < aX s := hw.1.2.2.2
  unfold f_X5_night b_X5_night_0 f_X6_night b_X6_night_0 b_X6_night_18
  rw [hc.1.2.1, hr.1.2.1]
  by_cases c : dN (aV s) = 999
  · rw [c, if_neg (show ¬ nI 999 < (999 : Int32) by decide), if_pos (show nI 999 = (999 : Int32) from rfl)]
    exact ⟨_, M, R, rfl, rfl, s, hw, hc, hr⟩
  · rw [if_pos (show nI (dN (aV s)) < (999 : Int32) from (nI_ltI (b := 999) (by omega) (by decide)).mpr (by omega)), if_neg (show ¬ nI (dN (aV s)) = (999 : Int32) from fun q => c ((nI_eq (b := 999) (by omega) (by decide)).mp q)), theLaw_c (by omega) hc.1.2.2.1, bind_some_, gd_t (isK_t (kd_t (by omega)))]
    obtain ⟨M', a1, a2, a3⟩ := pass_c (N := N) (t := 46 + dL (aV s)) hN (by decide : 1 ≤ 1) (by decide) hw.1.1 (kd_t (by omega)) (hw.2.1.2.2 _ hl) (by omega) hw.1.2.1 hc.1 (hc.2.2.1 _ hl)
    have m0 : Mt R (sFI R 100 34 0) := ⟨fun k h1 _ _ => FI_n h1, fun _ _ => rfl, fun _ _ _ _ => rfl⟩
    have W0 : WR (sFI R 100 34 0) (dC (aV s)) (dS (aV s)) (dW (aV s)) (dN (aV s)) (dL (aV s)) := by
      obtain ⟨k0, k1, k2, k3, k4⟩ := hr.1
      exact ⟨k0, (FI_n (by decide)).trans k1, (FI_n (by decide)).trans k2, (FI_n (by decide)).trans k3, k4⟩
    obtain ⟨R', b1, b2, b3, b4, b5⟩ := night_w hN hw.1.1 hl hx6 hw.2.1.2.2 (by omega) hw.1.2.1 (hr.2.2.1.mt m0) W0
    rw [a1, bd2_s, b1, bind_some_, b4, FI_s]
    refine ⟨_, M', R', rfl, ?_, withV s (mkV (dC (aV s)) _ (dW (aV s)) (dN (aV s) + 1) (dL (aV s))), wf_vw hw ⟨hw.1.1, fun q hq => wf_walk (hw.1.2.1 q hq), by show _ + 1 ≤ 999; omega, hl⟩ (Nat.le_refl _) (fun q _ => ?_), hc.vw hw (a3.wk (fun a ha => ha.elim Or.inl (fun z => Or.inr (by unfold gC; omega)))) a2, hr.vw (Mv.mt (m0.tr (Mt.mn b3))) b2⟩
    · rw [Int32.zero_add]
    · exact ⟨walk_k.1, walk_k.2.1⟩
