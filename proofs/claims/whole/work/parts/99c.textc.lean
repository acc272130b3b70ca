/-! L2: text: the state after it -/
def noP (s : St) : St := (s.1, s.2.1, (0, aB s), s.2.2.2)
def withT (s : St) (x : Txt) : St := (s.1, (aX s + 1, fun i => if i = aX s then x else aT s i), (0, aB s), s.2.2.2)
theorem wf_noP {s : St} (h : wfSt s) : wfSt (noP s) := ⟨h.1, h.2.1, ⟨Nat.zero_le _, fun k hk => absurd hk (Nat.not_lt_zero k)⟩, h.2.2.2.1, h.2.2.2.2⟩
theorem wfWd_s {v : Wd} {tx : Nat} (h : wfWd v tx) : wfWd v (tx + 1) := ⟨h.1, h.2.1, h.2.2.1, Nat.lt_succ_of_lt h.2.2.2⟩
theorem wf_withT {s : St} {x : Txt} (h : wfSt s) (hx : wfT x) (h6 : aX s < 6) : wfSt (withT s x) := by
  obtain ⟨h1, ⟨h2, h3, h4⟩, h5, h7, h8⟩ := h
  refine ⟨wfWd_s h1, ⟨Nat.succ_le_succ (Nat.zero_le _), h6, fun i hi => ?_⟩, ⟨Nat.zero_le _, fun k hk => absurd hk (Nat.not_lt_zero k)⟩, fun hi => ?_, h8⟩
  · have hi' : i < aX s + 1 := hi
    show wfT (if i = aX s then x else aT s i)
    by_cases q : i = aX s
    · rw [if_pos q]; exact hx
    · rw [if_neg q]; exact h4 i (by omega)
  · obtain ⟨i1, i2⟩ := h7 hi
    exact ⟨wfWd_s i1, i2⟩
theorem RcS.tx {M M' : Mem} {s : St} (h : RcS M s) (hw : wfSt s) (hm : Mx (fun c => c = 0 ∨ c = 72 ∨ c = 46 + aX s ∨ c = 46 + aX s + 6 ∨ c = 46 + aX s + 12 ∨ c = 46 + aX s + 18) M M') (h6 : aX s < 6) (e8 : FI M' 0 8 = nI (aX s)) (e9 : FI M' 0 9 = 0) (e10 : FI M' 0 10 = FI M 0 10) : RcS M' (noP s) := by
  obtain ⟨h1, h2, h3, h4, h5, h7, h8, h9⟩ := h
  refine ⟨WC.mx h1 hm (by decide) (by decide) hw.1.1 (fun a ha => by unfold inW at ha; omega), e8, fun i hi => ?_, e9, fun k hk => absurd hk (Nat.not_lt_zero k), e10.trans h7, fun hi => WC.mx (h8 hi) hm (by decide) (by decide) (hw.2.2.2.1 hi).1.1 (fun a ha => by unfold inW at ha; omega), fun k hk => ?_⟩
  · have hi' : i < aX s := hi
    exact (h3 i hi).mx hm (by omega) (by omega) (by omega)
  · obtain ⟨a1, a2, a3⟩ := h9 k hk
    have e1 := hm (74 + k) (by omega)
    have e2 := hm (78 + k) (by omega)
    exact ⟨(e1.1 0).trans a1, (e1.1 1).trans a2, fun j hj => by rw [e2.2.2]; exact a3 j hj⟩
theorem RcS.wt {M : Mem} {s : St} {x : Txt} (h : RcS M (noP s)) (hw : wfSt s) (h6 : aX s < 6) (hx : RTc M (46 + aX s) x) : RcS (sFI M 0 8 (nI (aX s + 1))) (withT s x) := by
  have hm : Mx (fun c => c = 0) M (sFI M 0 8 (nI (aX s + 1))) := Mx.fi M 0 8 _
  obtain ⟨h1, h2, h3, h4, h5, h7, h8, h9⟩ := h
  refine ⟨WC.mx h1 hm (by decide) (by decide) hw.1.1 (fun a ha => by unfold inW at ha; omega), FI_s, fun i hi => ?_, (FI_n (by decide)).trans h4, fun k hk => absurd hk (Nat.not_lt_zero k), (FI_n (by decide)).trans h7, fun hi => WC.mx (h8 hi) hm (by decide) (by decide) (hw.2.2.2.1 hi).1.1 (fun a ha => by unfold inW at ha; omega), fun k hk => ?_⟩
  · have hi' : i < aX s + 1 := hi
    show RTc _ (46 + i) (if i = aX s then x else aT s i)
    by_cases q : i = aX s
    · rw [if_pos q, q]
      exact hx.mx hm (by omega) (by omega) (by omega)
    · rw [if_neg q]
      exact (h3 i (by show i < aX s; omega)).mx hm (by omega) (by omega) (by omega)
  · obtain ⟨a1, a2, a3⟩ := h9 k hk
    have e1 := hm (74 + k) (by omega)
    have e2 := hm (78 + k) (by omega)
    exact ⟨(e1.1 0).trans a1, (e1.1 1).trans a2, fun j hj => by rw [e2.2.2]; exact a3 j hj⟩
theorem RTr.kt {R R' : Mem} {i tx : Nat} {x : Txt} (h : RTr R i x) (hx : wfT x) (hm : Kt tx R R') (hi : i < tx) : RTr R' i x := by
  obtain ⟨t1, t2, t3⟩ := h
  refine ⟨fun p hp k hk => ?_, fun p hp => ?_, ?_⟩
  · have := tE_le hx hp
    unfold tE at this
    rw [hm.2.2.2.1 _ (by omega)]
    exact t1 p hp k hk
  · rw [hm.2.2.2.2 _ (by omega)]
    exact t2 p hp
  · rw [hm.2.2.2.2 _ (by omega)]
    exact t3
theorem RrS.kt {R R' : Mem} {s : St} (h : RrS R s) (hw : wfSt s) (hm : Kt (aX s) R R') (e12 : FI R' 100 12 = nI (aX s)) (e9 : FI R' 100 9 = 0) : RrS R' (noP s) := by
  obtain ⟨h1, h2, h3, h4, h5, h6, h7, h8, h9⟩ := h
  obtain ⟨m1, m2, m3, m4, m5⟩ := id hm
  obtain ⟨k0, k1, k2, k3, k4⟩ := h1
  have A : ∀ b, b ≠ 107 → b ≠ 108 → b ≠ 116 → AI R' b = AI R b := m3
  refine ⟨⟨(m2 6).trans k0, (m1 7 (by decide) (by decide) (by decide)).trans k1, (m1 13 (by decide) (by decide) (by decide)).trans k2, (m1 0 (by decide) (by decide) (by decide)).trans k3, fun q hq => ?_⟩, e12, fun i hi => (h3 i hi).kt (hw.2.1.2.2 i hi) hm hi, e9, fun k hk => absurd hk (Nat.not_lt_zero k), (m1 14 (by decide) (by decide) (by decide)).trans h6, fun hi => ?_, fun k hk => ?_, fun k hk => ?_⟩
  · obtain ⟨r0, r1, r2, r3, r4, r5, r6, r7, r8⟩ := k4 q hq
    have e1 := A 101 (by decide) (by decide) (by decide)
    have e2 := A 102 (by decide) (by decide) (by decide)
    have e3 := A 103 (by decide) (by decide) (by decide)
    have e4 := A 104 (by decide) (by decide) (by decide)
    have e5 := A 105 (by decide) (by decide) (by decide)
    refine ⟨?_, ?_, ?_, ?_, ?_, ?_, ?_, ?_, fun k hk => ?_⟩
    · rw [e1]; exact r0
    · rw [e2]; exact r1
    · rw [e3]; exact r2
    · rw [e3]; exact r3
    · rw [e3]; exact r4
    · rw [e3]; exact r5
    · rw [e3]; exact r6
    · rw [e5]; exact r7
    · rw [e4]; exact r8 k hk
  · obtain ⟨i1, i2, i3, i4, i5⟩ := h7 hi
    have e1 := A 110 (by decide) (by decide) (by decide)
    have e2 := A 109 (by decide) (by decide) (by decide)
    refine ⟨(m2 16).trans i1, by rw [e1]; exact i2, by rw [e1]; exact i3, by rw [e1]; exact i4, fun q hq => ?_⟩
    have := i5 q hq
    unfold RI at this ⊢
    rw [e2]
    exact this
  · have e1 := A 111 (by decide) (by decide) (by decide)
    have e2 := A 112 (by decide) (by decide) (by decide)
    have e3 := A 113 (by decide) (by decide) (by decide)
    have := h8 k hk
    rw [e1, e2, e3]
    exact this
  · rw [A 115 (by decide) (by decide) (by decide)]
    exact h9 k hk
theorem RrS.wt {R R' : Mem} {s : St} {x : Txt} (h : RrS R s) (hw : wfSt s) (hm : Kt (aX s) R R') (e12 : FI R' 100 12 = nI (aX s + 1)) (e9 : FI R' 100 9 = 0) (hx : RTr R' (aX s) x) : RrS R' (withT s x) := by
  have hm2 : Kt (aX s) R (sFI R' 100 12 (nI (aX s))) := hm.tr (Kt.fi _ _ _ (Or.inr (Or.inl rfl)))
  obtain ⟨h1, h2, h3, h4, h5, h6, h7, h8, h9⟩ := h.kt hw hm2 FI_s ((FI_n (by decide)).trans e9)
  obtain ⟨k0, k1, k2, k3, k4⟩ := h1
  refine ⟨⟨k0, (FI_n (by decide)).symm.trans k1, (FI_n (by decide)).symm.trans k2, (FI_n (by decide)).symm.trans k3, k4⟩, e12, fun i hi => ?_, e9, fun k hk => absurd hk (Nat.not_lt_zero k), (FI_n (by decide)).symm.trans h6, h7, h8, h9⟩
  have hi' : i < aX s + 1 := hi
  show RTr R' i (if i = aX s then x else aT s i)
  by_cases q : i = aX s
  · rw [if_pos q, q]
    exact hx
  · rw [if_neg q]
    exact h3 i (by show i < aX s; omega)
theorem AR_45 {k : Nat} : AR 45 k = 46 + k := rfl
theorem st_text {N : Nat} {M R : Mem} (hN : 200 < N) (h : Sim M R) : ∃ r M' R', f_X5_text N M = some (r, M') ∧ f_X6_text N R = some (r, R') ∧ Sim M' R' := by
  obtain ⟨s, hw, hc, hr⟩ := h
  obtain ⟨h1, ⟨hx1, hx6, hxf⟩, ⟨hn, hb⟩, -⟩ := id hw
  have c8 : FI M 0 8 = nI (aX s) := hc.2.1
  have r12 : FI R 100 12 = nI (aX s) := hr.2.1
  unfold f_X5_text b_X5_text_0 f_X6_text b_X6_text_0
  rw [c8, r12, show (6 : Int32) = nI 6 from rfl, itEq (by omega) (by decide)]
  by_cases q6 : aX s = 6
  · rw [if_pos (show nI 6 ≤ nI (aX s) from nI_le (by omega) (by omega)), if_pos q6]
    exact ⟨_, M, R, rfl, rfl, s, hw, hc, hr⟩
  have htx : aX s < 6 := by omega
  rw [if_neg (show ¬ nI 6 ≤ nI (aX s) from nI_ge htx (by decide)), if_pos (show (0 : Int32) ≤ nI (aX s) from Int32.not_lt.mp (nI_pos (by omega))), if_neg q6, hc.2.2.2.1]
  unfold b_X5_text_29 b_X6_text_17 b_X6_text_22
  have c8' : FI (sFI M 0 9 0) 0 8 = nI (aX s) := (FI_n (by decide)).trans c8
  have hj : 46 ≤ 46 + aX s ∧ 46 + aX s < 52 := by omega
  rw [c8', gdn (n := len 45) (show aX s < 6 by omega) (by decide), nI_clamp (by omega), AR_45, gd_t (isj hj)]
  unfold f_X0_readAll b_X0_readAll_0 b_X0_readAll_13 b_X0_readAll_18 b_X0_readAll_23 b_X0_readAll_31
  have em : (if nI (aP s) < nI (len 71) then nI (aP s) else nI (len 71)) = nI (aP s) := by
    rw [show len 71 = 160 from rfl, itLt (by omega) (by decide)]
    by_cases q : aP s < 160
    · rw [if_pos q]
    · rw [if_neg q, show aP s = 160 by omega]
  rw [em, show RF (sRF (sFI (sFI (sFI M 0 9 0) 72 1 (nI (aP s))) 72 2 0) (46 + aX s)) = 46 + aX s from rfl, gd_t (isj hj)]
  generalize hMa : sFI (sRF (sFI (sFI (sFI M 0 9 0) 72 1 (nI (aP s))) 72 2 0) (46 + aX s)) (46 + aX s) 4 0 = Ma
  have mxa : Mx (fun c => c = 0 ∨ c = 72 ∨ c = 46 + aX s ∨ c = 46 + aX s + 6 ∨ c = 46 + aX s + 12 ∨ c = 46 + aX s + 18) M Ma := by
    intro c hc0
    rw [← hMa]
    refine ⟨fun k => ?_, fun k => rfl, rfl⟩
    rw [FI_sFI, if_neg (fun z => hc0 (Or.inr (Or.inr (Or.inl z.1))))]
    show FI (sFI (sFI (sFI M 0 9 0) 72 1 (nI (aP s))) 72 2 0) c k = _
    rw [FI_sFI, if_neg (fun z => hc0 (Or.inr (Or.inl z.1))), FI_sFI, if_neg (fun z => hc0 (Or.inr (Or.inl z.1))), FI_sFI, if_neg (fun z => hc0 (Or.inl z.1))]
  have f0 : ∀ k, FI Ma 0 k = FI (sFI M 0 9 0) 0 k := fun k => by
    rw [← hMa, FI_sFI, if_neg (fun z => by omega)]
    show FI (sFI (sFI (sFI M 0 9 0) 72 1 (nI (aP s))) 72 2 0) 0 k = _
    rw [FI_sFI, if_neg (fun z => by omega), FI_sFI, if_neg (fun z => by omega)]
  have f72 : ∀ k, FI Ma 72 k = FI (sFI (sFI (sFI M 0 9 0) 72 1 (nI (aP s))) 72 2 0) 72 k := fun k => by
    rw [← hMa, FI_sFI, if_neg (fun z => by omega)]
    rfl
  have rfa : RF Ma = 46 + aX s := by rw [← hMa]; rfl
  have f4 : FI Ma (46 + aX s) 4 = 0 := by rw [← hMa, FI_s]
  have aia : AI Ma = AI M := by rw [← hMa]; rfl
  have tp : Tp Ma (aB s) (aP s) := ⟨by rw [f72, FI_n (by decide), FI_s], fun k hk => by rw [aia]; exact hc.2.2.2.2.1 k hk⟩
  obtain ⟨M1, a1, a2, a3, a4, a5, a6⟩ := advance_c (N := N) (n := aP s) (b := aB s) (by omega) hn hb (aP s) N 0 Ma (by omega) (Nat.zero_add _) tp (by rw [f72, FI_s]; rfl)
  rw [show f_X0_advance N Ma = some M1 from a1, bind_some_]
  have cs : CS (aB s) (aP s) (46 + aX s) M1 0 [] := ⟨tp.lx a2, ⟨a3, a4, a5, a6⟩, a2.2.2.2.2.trans rfa, (a2.2.1 _ (by omega) 4).trans f4, fun k hk => absurd hk (Nat.not_lt_zero k), Nat.zero_le _⟩
  have k0 : Kt (aX s) R (sFI (sFI R 100 22 0) 100 30 0) := (Kt.fi _ R _ (by omega)).tr (Kt.fi _ _ _ (by omega))
  have ts : TS (aB s) (aP s) (aX s) M1 (sFI (sFI R 100 22 0) 100 30 0) 0 [] := ⟨cs, ⟨(FI_n (by decide)).trans ((FI_n (by decide)).trans hr.2.2.2.1), hr.2.2.2.2.1, hr.2.2.2.2.2.2.2.2⟩, (FI_n (by decide)).trans FI_s, (FI_n (by decide)).trans ((FI_n (by decide)).trans r12), FI_s, fun k hk => absurd hk (Nat.not_lt_zero k), Nat.zero_le _⟩
  have mx1 : Mx (fun c => c = 0 ∨ c = 72 ∨ c = 46 + aX s ∨ c = 46 + aX s + 6 ∨ c = 46 + aX s + 12 ∨ c = 46 + aX s + 18) M M1 := mxa.tr (Mx.wk (Fr.lx (j := 46 + aX s) a2) (fun a q => by omega))
  have g0 : ∀ k, FI M1 0 k = FI (sFI M 0 9 0) 0 k := fun k => (a2.2.1 0 (by decide) k).trans (f0 k)
  rcases txt_all hN hn htx hb ts (nI (aP s)) (46 + aX s) with ⟨-, u, M', R', c1, r1, F, K, s1, s2, s3⟩ | ⟨-, x, M', R', -, c1, r1, F, K, s1, s2, s3, s4, s5⟩
  · have mx : Mx (fun c => c = 0 ∨ c = 72 ∨ c = 46 + aX s ∨ c = 46 + aX s + 6 ∨ c = 46 + aX s + 12 ∨ c = 46 + aX s + 18) M M' := mx1.tr (Mx.wk F (fun a q => Or.inr q))
    have g1 : ∀ k, FI M' 0 k = FI (sFI M 0 9 0) 0 k := fun k => ((F 0 (by omega)).1 k).trans (g0 k)
    rw [show b_X0_readAll_37 N (nI (aP s)) (46 + aX s) N (0 : Int32) M1 = some (nI u, M') from c1, bd2_s, if_neg (show ¬ nI u = (-1 : Int32) from fun z => absurd (show nI u < 0 by rw [z]; decide) (nI_pos (by omega)))]
    exact ⟨_, M', R', rfl, r1, noP s, wf_noP hw, hc.tx hw mx htx (by rw [g1]; exact c8') (by rw [g1, FI_s]) (by rw [g1, FI_n (by decide)]), hr.kt hw (k0.tr K) s1 s2⟩
  · have mx : Mx (fun c => c = 0 ∨ c = 72 ∨ c = 46 + aX s ∨ c = 46 + aX s + 6 ∨ c = 46 + aX s + 12 ∨ c = 46 + aX s + 18) M M' := mx1.tr (Mx.wk F (fun a q => Or.inr q))
    have g1 : ∀ k, FI M' 0 k = FI (sFI M 0 9 0) 0 k := fun k => ((F 0 (by omega)).1 k).trans (g0 k)
    have g8 : FI M' 0 8 = nI (aX s) := by rw [g1]; exact c8'
    have hc' := hc.tx hw mx htx g8 (by rw [g1, FI_s]) (by rw [g1, FI_n (by decide)])
    rw [show b_X0_readAll_37 N (nI (aP s)) (46 + aX s) N (0 : Int32) M1 = some (-1, M') from c1, bd2_s, if_pos rfl]
    unfold b_X5_text_67
    rw [g8, nI_1, FI_s, nI_pred]
    exact ⟨_, _, R', rfl, r1, withT s x, wf_withT hw s3 htx, hc'.wt hw htx s4, hr.wt hw (k0.tr K) s1 s2 s5⟩
