/-! L2: sheets, as both sides look them up; one sheet changed; the tape -/
def withU (s : St) (k : Nat) (o : Int32) (z : Nat) (u : Nat → Int32) : St := (s.1, s.2.1, s.2.2.1, s.2.2.2.1, (fun j => if j = k then o else aO s j), (fun j => if j = k then z else aZ s j), fun j => if j = k then u else aU s j)
theorem wf_withU {s : St} {k : Nat} {o : Int32} {z : Nat} {u : Nat → Int32} (h : wfSt s) (ho : o = -1 ∨ o = 0 ∨ o = 1 ∨ o = 2) (hz : z ≤ 40) (hoz : o = -1 → z = 0) : wfSt (withU s k o z u) :=
  ⟨h.1, h.2.1, h.2.2.1, h.2.2.2.1, fun j hj => by
    show ((if j = k then o else aO s j) = -1 ∨ (if j = k then o else aO s j) = 0 ∨ (if j = k then o else aO s j) = 1 ∨ (if j = k then o else aO s j) = 2) ∧ (if j = k then z else aZ s j) ≤ 40 ∧ ((if j = k then o else aO s j) = -1 → (if j = k then z else aZ s j) = 0)
    by_cases e : j = k
    · simp only [if_pos e]; exact ⟨ho, hz, hoz⟩
    · simp only [if_neg e]; exact h.2.2.2.2 j hj⟩
theorem RcS.sh {M M' : Mem} {s : St} {k : Nat} {o : Int32} {z : Nat} {u : Nat → Int32} (h : RcS M s) (hw : wfSt s) (hk : k < 4) (hm : Mx (fun a => a = 74 + k ∨ a = 78 + k ∨ gC a) M M') (e0 : FI M' (74 + k) 0 = o) (e1 : FI M' (74 + k) 1 = nI z) (e2 : ∀ j, j < 40 → AI M' (78 + k) j = u j) : RcS M' (withU s k o z u) := by
  obtain ⟨h1, h2, h3, h4, h5, h6, h7, h8⟩ := h
  have e00 := hm 0 (by unfold gC; omega)
  have e71 := hm 71 (by unfold gC; omega)
  refine ⟨WC.mx h1 hm (by decide) (by decide) hw.1.1 (fun a ha => by unfold inW at ha; unfold gC; omega), (e00.1 8).trans h2, h3.mx hm hw.2.1.2.1 (fun a q1 q2 => by unfold gC; omega), (e00.1 9).trans h4, fun k hk => by rw [e71.2.2]; exact h5 k hk, (e00.1 10).trans h6, fun hi => WC.mx (h7 hi) hm (by decide) (by decide) (hw.2.2.2.1 hi).1.1 (fun a ha => by unfold inW at ha; unfold gC; omega), fun j hj => ?_⟩
  show FI M' (74 + j) 0 = (if j = k then o else aO s j) ∧ FI M' (74 + j) 1 = nI (if j = k then z else aZ s j) ∧ ∀ i, i < 40 → AI M' (78 + j) i = (if j = k then u else aU s j) i
  by_cases e : j = k
  · subst e
    rw [if_pos rfl, if_pos rfl, if_pos rfl]
    exact ⟨e0, e1, e2⟩
  · rw [if_neg e, if_neg e, if_neg e]
    obtain ⟨a1, a2, a3⟩ := h8 j hj
    have f1 := hm (74 + j) (by unfold gC; omega)
    have f2 := hm (78 + j) (by unfold gC; omega)
    exact ⟨(f1.1 0).trans a1, (f1.1 1).trans a2, fun i hi => by rw [f2.2.2]; exact a3 i hi⟩
/-- R' is R but for sheet k -/
def Mu (R R' : Mem) (k : Nat) : Prop := (∀ j, FI R' 100 j = FI R 100 j) ∧ (∀ j, FJ R' 100 j = FJ R 100 j) ∧ (∀ b, (b < 111 ∨ 113 < b) → AI R' b = AI R b) ∧ (∀ q, q ≠ k → AI R' 111 q = AI R 111 q ∧ AI R' 112 q = AI R 112 q) ∧ ∀ q, q < 40 * k ∨ 40 * k + 40 ≤ q → AI R' 113 q = AI R 113 q
theorem Mu.rf (R : Mem) (k : Nat) : Mu R R k := ⟨fun _ => rfl, fun _ => rfl, fun _ _ => rfl, fun _ _ => ⟨rfl, rfl⟩, fun _ _ => rfl⟩
theorem Mu.tr {R R1 R2 : Mem} {k : Nat} (h : Mu R R1 k) (g : Mu R1 R2 k) : Mu R R2 k := ⟨fun j => (g.1 j).trans (h.1 j), fun j => (g.2.1 j).trans (h.2.1 j), fun b hb => (g.2.2.1 b hb).trans (h.2.2.1 b hb), fun q hq => ⟨(g.2.2.2.1 q hq).1.trans (h.2.2.2.1 q hq).1, (g.2.2.2.1 q hq).2.trans (h.2.2.2.1 q hq).2⟩, fun q hq => (g.2.2.2.2 q hq).trans (h.2.2.2.2 q hq)⟩
theorem Mu.sort (R : Mem) (k : Nat) (v : Int32) : Mu R (sAI R 111 k v) k := ⟨fun _ => rfl, fun _ => rfl, fun b hb => AI_nf (by omega), fun q hq => ⟨AI_n hq, AI_na (by decide)⟩, fun q _ => AI_na (by decide)⟩
theorem Mu.size (R : Mem) (k : Nat) (v : Int32) : Mu R (sAI R 112 k v) k := ⟨fun _ => rfl, fun _ => rfl, fun b hb => AI_nf (by omega), fun q hq => ⟨AI_na (by decide), AI_n hq⟩, fun q _ => AI_na (by decide)⟩
theorem Mu.num (R : Mem) {k j : Nat} (v : Int32) (h1 : 40 * k ≤ j) (h2 : j < 40 * k + 40) : Mu R (sAI R 113 j v) k := ⟨fun _ => rfl, fun _ => rfl, fun b hb => AI_nf (by omega), fun q hq => ⟨AI_na (by decide), AI_na (by decide)⟩, fun q _ => AI_n (by omega)⟩
theorem RrS.sh {R R' : Mem} {s : St} {k : Nat} {o : Int32} {z : Nat} {u : Nat → Int32} (h : RrS R s) (hk : k < 4) (hm : Mu R R' k) (e0 : AI R' 111 k = o) (e1 : AI R' 112 k = nI z) (e2 : ∀ j, j < 40 → AI R' 113 (40 * k + j) = u j) : RrS R' (withU s k o z u) := by
  obtain ⟨h1, h2, h3, h4, h5, h6, h7, h8, h9⟩ := h
  obtain ⟨m1, m2, m3, m4, m5⟩ := hm
  obtain ⟨k0, k1, k2, k3, k4⟩ := h1
  refine ⟨⟨(m2 6).trans k0, (m1 7).trans k1, (m1 13).trans k2, (m1 0).trans k3, fun q hq => ?_⟩, (m1 12).trans h2, fun i hi => ?_, (m1 9).trans h4, fun k hk => ?_, (m1 14).trans h6, fun hi => ?_, fun j hj => ?_, fun k hk => ?_⟩
  · obtain ⟨r0, r1, r2, r3, r4, r5, r6, r7, r8⟩ := k4 q hq
    refine ⟨?_, ?_, ?_, ?_, ?_, ?_, ?_, ?_, fun k hk => ?_⟩
    · rw [m3 101 (by omega)]; exact r0
    · rw [m3 102 (by omega)]; exact r1
    · rw [m3 103 (by omega)]; exact r2
    · rw [m3 103 (by omega)]; exact r3
    · rw [m3 103 (by omega)]; exact r4
    · rw [m3 103 (by omega)]; exact r5
    · rw [m3 103 (by omega)]; exact r6
    · rw [m3 105 (by omega)]; exact r7
    · rw [m3 104 (by omega)]; exact r8 k hk
  · obtain ⟨t1, t2, t3⟩ := h3 i hi
    have e1 := m3 107 (by omega)
    have e2 := m3 108 (by omega)
    exact ⟨fun p hp k hk => by rw [e1]; exact t1 p hp k hk, fun p hp => by rw [e2]; exact t2 p hp, by rw [e2]; exact t3⟩
  · rw [m3 106 (by omega)]; exact h5 k hk
  · obtain ⟨i1, i2, i3, i4, i5⟩ := h7 hi
    have e1 := m3 110 (by omega)
    have e2 := m3 109 (by omega)
    refine ⟨(m2 16).trans i1, by rw [e1]; exact i2, by rw [e1]; exact i3, by rw [e1]; exact i4, fun q hq => ?_⟩
    obtain ⟨r1, r2, r3, r4, r5, r6, r7⟩ := i5 q hq
    exact ⟨by rw [e2]; exact r1, by rw [e2]; exact r2, by rw [e2]; exact r3, by rw [e2]; exact r4, by rw [e2]; exact r5, by rw [e2]; exact r6, fun k hk => by rw [e2]; exact r7 k hk⟩
  · show AI R' 111 j = (if j = k then o else aO s j) ∧ AI R' 112 j = nI (if j = k then z else aZ s j) ∧ ∀ i, i < 40 → AI R' 113 (40 * j + i) = (if j = k then u else aU s j) i
    by_cases e : j = k
    · subst e
      rw [if_pos rfl, if_pos rfl, if_pos rfl]
      exact ⟨e0, e1, e2⟩
    · rw [if_neg e, if_neg e, if_neg e]
      obtain ⟨a1, a2, a3⟩ := h8 j hj
      exact ⟨(m4 j e).1.trans a1, (m4 j e).2.trans a2, fun i hi => (m5 _ (by omega)).trans (a3 i hi)⟩
  · rw [m3 115 (by omega)]; exact h9 k hk
/-- the number of a sheet, as both sides look it up -/
theorem sheet_b (x : Int32) (M R : Mem) : (∃ k : Nat, k < 4 ∧ x = nI k ∧ f_X5_isSheet x M = some true ∧ f_X6_in x 0 3 R = some true) ∨ (f_X5_isSheet x M = some false ∧ f_X6_in x 0 3 R = some false) := by
  unfold f_X5_isSheet b_X5_isSheet_0
  rw [show (4 : Int32) = nI 4 from rfl, show (3 : Int32) = nI 3 from rfl]
  rcases rg_b x 4 (by decide) with ⟨k, hk, rfl⟩ | hb
  · left
    exact ⟨k, hk, rfl, cl_yes hk (by decide), in_yes (by decide) (by omega) R⟩
  · right
    exact ⟨cl_no hb, in_no (by decide) hb R⟩
theorem kd1 {k : Nat} (h : k < 4) : kd (74 + k) = 1 := by
  have e : k = 0 ∨ k = 1 ∨ k = 2 ∨ k = 3 := by omega
  rcases e with rfl | rfl | rfl | rfl <;> rfl
theorem ar73 (k : Nat) : AR 73 k = 74 + k := rfl
theorem i73 {k : Nat} (h : k < 4) : inb (nI k) (len 73) = true := inb_nI (n := 4) h (by decide)
theorem sref_c {M : Mem} {k : Nat} (hk : k < 4) : f_X5_sheetRefusal (nI k) M = some (if FI M (74 + k) 0 = -1 then -11 else 0) := by
  unfold f_X5_sheetRefusal b_X5_sheetRefusal_0 f_X5_isSheet b_X5_isSheet_0
  rw [show (4 : Int32) = nI 4 from rfl, cl_yes hk (by decide), bind_some_, if_pos rfl, gd_t (i73 hk), nI_clamp (by omega), ar73, gd_t (isK_t (kd1 hk))]
  split <;> rfl
theorem sref_no {M : Mem} {x : Int32} (h : f_X5_isSheet x M = some false) : f_X5_sheetRefusal x M = some (-2) := by
  unfold f_X5_sheetRefusal b_X5_sheetRefusal_0
  rw [h, bind_some_, if_neg Bool.false_ne_true]
theorem has_c {M : Mem} {a z j : Nat} (hz : z ≤ 40) (h : FI M a 1 = nI z) (hj : j < 2 ^ 31) : f_X1_has a (nI j) M = some (decide (j < z)) := by
  unfold f_X1_has b_X1_has_0
  rw [h, if_neg (nI_pos hj)]
  by_cases c : j < z
  · rw [if_neg (nI_ge c (by omega)), if_neg (show ¬ (40 : Int32) ≤ nI j from nI_ge (b := 40) (by omega) (by decide)), decide_eq_true c]
  · rw [if_pos (nI_le (by omega) hj), decide_eq_false c]
theorem has_no {M : Mem} {a : Nat} {x : Int32} {z : Nat} (h : FI M a 1 = nI z) (hx : ¬ (¬ x < 0 ∧ x < nI z)) : f_X1_has a x M = some false := by
  unfold f_X1_has b_X1_has_0
  rw [h, cl_no hx]
theorem read_c {M : Mem} {k z j : Nat} {u : Nat → Int32} (hk : k < 4) (hz : z ≤ 40) (h : FI M (74 + k) 1 = nI z) (hu : ∀ j, j < 40 → AI M (78 + k) j = u j) (hj : j < z) : f_X1_read (74 + k) (nI j) M = some (u j) := by
  unfold f_X1_read b_X1_read_0
  rw [has_c hz h (by omega), bind_some_, decide_eq_true hj, if_pos rfl, gd_t (by rw [n_1_2 (kd1 hk)]; exact inb_nI (by omega) (by decide)), nI_clamp (by omega), show 74 + k + 4 = 78 + k by omega, hu j (by omega)]
/-- the tape one byte longer -/
def withP (s : St) (v : Nat) : St := (s.1, s.2.1, (aP s + 1, fun k => if k = aP s then v else aB s k), s.2.2.2)
theorem wf_withP {s : St} {v : Nat} (h : wfSt s) (hp : aP s < 160) (hv : v < 256) : wfSt (withP s v) :=
  ⟨h.1, h.2.1, ⟨hp, fun k hk => by
    have hk : k < aP s + 1 := hk
    show (if k = aP s then v else aB s k) < 256
    by_cases e : k = aP s
    · rw [if_pos e]; exact hv
    · rw [if_neg e]; exact h.2.2.1.2 k (by omega)⟩, h.2.2.2.1, h.2.2.2.2⟩
theorem feedOne_c {M : Mem} {s : St} {v : Nat} (h : RcS M s) (hw : wfSt s) (hp : aP s < 160) : ∃ M', f_X5_feedOne (nI v) M = some M' ∧ RcS M' (withP s v) := by
  obtain ⟨h1, h2, h3, h4, h5, h6, h7, h8⟩ := h
  unfold f_X5_feedOne b_X5_feedOne_0 b_X5_feedOne_27
  rw [h4, if_neg (nI_pos (by omega)), if_neg (show ¬ (160 : Int32) ≤ nI (aP s) from nI_ge (b := 160) hp (by decide)), gdn (n := len 71) (show aP s < 160 from hp) (by decide), nI_clamp (by omega), FI_sAI, h4, nI_1]
  refine ⟨_, rfl, ?_⟩
  generalize hM : sFI (sAI M 71 (aP s) (nI v)) 0 9 (nI (aP s + 1)) = M'
  have hm : Mx (fun a => a = 0 ∨ a = 71) M M' := by
    rw [← hM]
    exact fun a ha => ⟨fun j => by rw [FI_sFI, if_neg (fun q => ha (Or.inl q.1))]; rfl, fun _ => rfl, AI_nf (fun q => ha (Or.inr q))⟩
  have f8 : ∀ j, j ≠ 9 → FI M' 0 j = FI M 0 j := fun j hj => by rw [← hM, FI_n hj]; rfl
  refine ⟨WC.mx h1 hm (by decide) (by decide) hw.1.1 (fun a ha => by unfold inW at ha; omega), (f8 8 (by decide)).trans h2, h3.mx hm hw.2.1.2.1 (fun a q1 q2 => by omega), by rw [← hM, FI_s]; rfl, fun k hk => ?_, (f8 10 (by decide)).trans h6, fun hi => WC.mx (h7 hi) hm (by decide) (by decide) (hw.2.2.2.1 hi).1.1 (fun a ha => by unfold inW at ha; omega), fun k hk => ?_⟩
  · have hk : k < aP s + 1 := hk
    show AI M' 71 k = nI (if k = aP s then v else aB s k)
    rw [← hM]
    show AI (sAI M 71 (aP s) (nI v)) 71 k = _
    by_cases e : k = aP s
    · rw [if_pos e, e, AI_s]
    · rw [if_neg e, AI_n e]; exact h5 k (by omega)
  · obtain ⟨a1, a2, a3⟩ := h8 k hk
    have e1 := hm (74 + k) (by omega)
    have e2 := hm (78 + k) (by omega)
    exact ⟨(e1.1 0).trans a1, (e1.1 1).trans a2, fun j hj => by rw [e2.2.2]; exact a3 j hj⟩
theorem feedOne_r {R : Mem} {s : St} {v : Nat} (h : RrS R s) (hp : aP s < 160) : RrS (sFI (sAI R 106 (aP s) (nI v)) 100 9 (nI (aP s + 1))) (withP s v) := by
  obtain ⟨h1, h2, h3, h4, h5, h6, h7, h8, h9⟩ := h
  generalize hM : sFI (sAI R 106 (aP s) (nI v)) 100 9 (nI (aP s + 1)) = R'
  have f8 : ∀ j, j ≠ 9 → FI R' 100 j = FI R 100 j := fun j hj => by rw [← hM, FI_n hj]; rfl
  have f6 : ∀ j, FJ R' 100 j = FJ R 100 j := fun j => by rw [← hM]; rfl
  have fA : ∀ b, b ≠ 106 → AI R' b = AI R b := fun b hb => by rw [← hM]; exact AI_nf hb
  obtain ⟨k0, k1, k2, k3, k4⟩ := h1
  refine ⟨⟨(f6 6).trans k0, (f8 7 (by decide)).trans k1, (f8 13 (by decide)).trans k2, (f8 0 (by decide)).trans k3, fun q hq => ?_⟩, (f8 12 (by decide)).trans h2, fun i hi => ?_, by rw [← hM, FI_s]; rfl, fun k hk => ?_, (f8 14 (by decide)).trans h6, fun hi => ?_, fun k hk => ?_, fun k hk => ?_⟩
  · have := k4 q hq
    unfold RR at this ⊢
    rw [fA 101 (by decide), fA 102 (by decide), fA 103 (by decide), fA 104 (by decide), fA 105 (by decide)]
    exact this
  · have := h3 i hi
    unfold RTr at this ⊢
    rw [fA 107 (by decide), fA 108 (by decide)]
    exact this
  · have hk : k < aP s + 1 := hk
    show AI R' 106 k = nI (if k = aP s then v else aB s k)
    rw [← hM]
    show AI (sAI R 106 (aP s) (nI v)) 106 k = _
    by_cases e : k = aP s
    · rw [if_pos e, e, AI_s]
    · rw [if_neg e, AI_n e]; exact h5 k (by omega)
  · obtain ⟨i1, i2, i3, i4, i5⟩ := h7 hi
    refine ⟨(f6 16).trans i1, by rw [fA 110 (by decide)]; exact i2, by rw [fA 110 (by decide)]; exact i3, by rw [fA 110 (by decide)]; exact i4, fun q hq => ?_⟩
    have := i5 q hq
    unfold RI at this ⊢
    rw [fA 109 (by decide)]
    exact this
  · have := h8 k hk
    rw [fA 111 (by decide), fA 112 (by decide), fA 113 (by decide)]
    exact this
  · rw [fA 115 (by decide)]; exact h9 k hk
