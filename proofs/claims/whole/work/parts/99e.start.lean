/-! L3: the start: both sides have read the first law -/
def dumM (n : Nat) : Mem := (fun a k => if a = 72 then (if k = 1 then nI n else if k = 2 then nI (nxA lawB n 0) else if k = 3 then nI (stA lawB n 0) else if k = 4 then nI (tkA lawB n 0) else nI (vlA lawB n 0)) else 0, fun _ _ => 0, fun a k => if a = 71 then nI (lawB k) else 0, fun _ _ => 0, 46)
def dumR (n : Nat) : Mem := (fun _ k => if k = 9 then nI n else 0, fun _ _ => 0, fun a k => if a = 106 then nI (lawB k) else if a = 115 then nI (wtab.getD k 0) else 0, fun _ _ => 0, 0)
theorem dumM_cs (n : Nat) : CS lawB n 46 (dumM n) 0 [] := ⟨⟨rfl, fun k _ => rfl⟩, ⟨rfl, rfl, rfl, fun _ => rfl⟩, rfl, rfl, fun k hk => absurd hk (Nat.not_lt_zero k), Nat.zero_le _⟩
theorem dumR_tr (n : Nat) : Tr (dumR n) lawB n := ⟨rfl, fun k _ => rfl, fun k _ => rfl⟩
theorem start_c {N : Nat} {M : Mem} (hN : 200 < N) (h71 : ∀ k, k < 35 → AI M 71 k = nI (lawB k)) : ∃ M', f_X0_readAll N (nI 35) 46 M = some (-1, M') ∧ Mx (fun c => c = 72 ∨ c = 46 ∨ c = 52 ∨ c = 58 ∨ c = 64) M M' ∧ RTc M' 46 lawT ∧ wfT lawT := by
  have hb : ∀ k, k < 35 → lawB k < 256 := fun k _ => lawB_lt k
  have hj : 46 ≤ 46 ∧ 46 < 52 := by decide
  unfold f_X0_readAll b_X0_readAll_0 b_X0_readAll_13 b_X0_readAll_18 b_X0_readAll_23 b_X0_readAll_31
  rw [show (if nI 35 < nI (len 71) then nI 35 else nI (len 71)) = nI 35 by decide, show RF (sRF (sFI (sFI M 72 1 (nI 35)) 72 2 0) 46) = 46 from rfl, gd_t (isj hj)]
  generalize hMa : sFI (sRF (sFI (sFI M 72 1 (nI 35)) 72 2 0) 46) 46 4 0 = Ma
  have mxa : Mx (fun c => c = 72 ∨ c = 46 ∨ c = 52 ∨ c = 58 ∨ c = 64) M Ma := by
    intro c hc0
    rw [← hMa]
    refine ⟨fun k => ?_, fun k => rfl, rfl⟩
    rw [FI_sFI, if_neg (fun z => hc0 (Or.inr (Or.inl z.1)))]
    show FI (sFI (sFI M 72 1 (nI 35)) 72 2 0) c k = _
    rw [FI_sFI, if_neg (fun z => hc0 (Or.inl z.1)), FI_sFI, if_neg (fun z => hc0 (Or.inl z.1))]
  have f72 : ∀ k, FI Ma 72 k = FI (sFI (sFI M 72 1 (nI 35)) 72 2 0) 72 k := fun k => by
    rw [← hMa, FI_sFI, if_neg (fun z => absurd z.1 (by decide))]
    rfl
  have rfa : RF Ma = 46 := by rw [← hMa]; rfl
  have f4 : FI Ma 46 4 = 0 := by rw [← hMa, FI_s]
  have aia : AI Ma = AI M := by rw [← hMa]; rfl
  have tp : Tp Ma lawB 35 := ⟨by rw [f72, FI_n (by decide), FI_s], fun k hk => by rw [aia]; exact h71 k hk⟩
  obtain ⟨M1, a1, a2, a3, a4, a5, a6⟩ := advance_c (N := N) (n := 35) (b := lawB) (by omega) (by decide) hb 35 N 0 Ma (by omega) (Nat.zero_add _) tp (by rw [f72, FI_s]; rfl)
  rw [show f_X0_advance N Ma = some M1 from a1, bind_some_]
  have cs : CS lawB 35 46 M1 0 [] := ⟨tp.lx a2, ⟨a3, a4, a5, a6⟩, a2.2.2.2.2.trans rfa, (a2.2.1 _ (by decide) 4).trans f4, fun k hk => absurd hk (Nat.not_lt_zero k), Nat.zero_le _⟩
  have ts : TS lawB 35 0 M1 (dumR 35) 0 [] := ⟨cs, dumR_tr 35, rfl, rfl, rfl, fun k hk => absurd hk (Nat.not_lt_zero k), Nat.zero_le _⟩
  have mx1 : Mx (fun c => c = 72 ∨ c = 46 ∨ c = 52 ∨ c = 58 ∨ c = 64) M M1 := mxa.tr (Mx.wk (Fr.lx (j := 46) a2) (fun a q => by omega))
  rcases txt_all hN (by decide) (by decide) hb ts (nI 35) 46 with ⟨q, -⟩ | ⟨-, x, M', R', hx, c1, r1, F, K, s1, s2, s3, s4, s5⟩
  · exact absurd law_ok_35 q
  · rw [law_tx_35] at hx
    subst hx
    exact ⟨M', c1, mx1.tr (Mx.wk F (fun a q => by omega)), s4, s3⟩
theorem start_r {N : Nat} {R : Mem} (hN : 200 < N) (hT : Tr R lawB 34) (h12 : FI R 100 12 = 0) : ∃ r R', f_X6_text N R = some (r, R') ∧ Kt 0 R R' ∧ FI R' 100 12 = nI 1 ∧ FI R' 100 9 = 0 ∧ RTr R' 0 lawT := by
  have hb : ∀ k, k < 34 → lawB k < 256 := fun k _ => lawB_lt k
  unfold f_X6_text b_X6_text_0
  rw [h12, if_neg (show ¬ (0 : Int32) = 6 by decide)]
  unfold b_X6_text_17 b_X6_text_22
  have k0 : Kt 0 R (sFI (sFI R 100 22 0) 100 30 0) := (Kt.fi _ R _ (by omega)).tr (Kt.fi _ _ _ (by omega))
  have ts : TS lawB 34 0 (dumM 34) (sFI (sFI R 100 22 0) 100 30 0) 0 [] := ⟨dumM_cs 34, ⟨(FI_n (by decide)).trans ((FI_n (by decide)).trans hT.1), hT.2.1, hT.2.2⟩, (FI_n (by decide)).trans FI_s, (FI_n (by decide)).trans ((FI_n (by decide)).trans h12), FI_s, fun k hk => absurd hk (Nat.not_lt_zero k), Nat.zero_le _⟩
  rcases txt_all hN (by decide) (by decide) hb ts (nI 34) 46 with ⟨q, -⟩ | ⟨-, x, M', R', hx, c1, r1, F, K, s1, s2, s3, s4, s5⟩
  · exact absurd law_ok_34 q
  · rw [law_tx_34] at hx
    subst hx
    exact ⟨_, R', r1, k0.tr K, s1, s2, s5⟩
/-- the state at the start -/
def st0 (u : Nat → Nat → Int32) : St := mkSt (0, fun _ => mkS 0 0 0 0 0 0 0 [], 0, 0, 0) 1 (fun _ => lawT) 0 (fun _ => 0) false (0, fun _ => mkS 0 0 0 0 0 0 0 [], 0, 0, 0) (fun _ => -1) (fun _ => 0) u
theorem wf_st0 (u : Nat → Nat → Int32) (h : wfT lawT) : wfSt (st0 u) := ⟨⟨Nat.zero_le _, fun q hq => absurd hq (Nat.not_lt_zero q), Nat.zero_le _, Nat.one_pos⟩, ⟨Nat.le_refl 1, show 1 ≤ 6 by decide, fun _ _ => h⟩, ⟨Nat.zero_le _, fun k hk => absurd hk (Nat.not_lt_zero k)⟩, fun z => absurd (show false = true from z) Bool.false_ne_true, fun k _ => ⟨Or.inl rfl, Nat.zero_le _, fun _ => rfl⟩⟩
theorem start_sim {M R : Mem} (hx : wfT lawT) (w0 : FJ M 1 0 = 0 ∧ FI M 1 1 = 0 ∧ FI M 1 2 = 0 ∧ FI M 1 3 = 0) (h8 : FI M 0 8 = 1) (h9 : FI M 0 9 = 0) (h10 : FI M 0 10 = 0) (hT : RTc M 46 lawT) (hs : ∀ k, k < 4 → FI M (74 + k) 0 = -1 ∧ FI M (74 + k) 1 = 0 ∧ ∀ j, j < 40 → AI M (78 + k) j = 0)
    (r0 : FJ R 100 6 = 0 ∧ FI R 100 7 = 0 ∧ FI R 100 13 = 0 ∧ FI R 100 0 = 0) (g12 : FI R 100 12 = 1) (g9 : FI R 100 9 = 0) (g14 : FI R 100 14 = 0) (gT : RTr R 0 lawT) (gs : ∀ k, k < 4 → AI R 111 k = -1 ∧ AI R 112 k = 0 ∧ ∀ j, j < 40 → AI R 113 (40 * k + j) = 0) (gw : ∀ k, k < 96 → AI R 115 k = nI (wtab.getD k 0)) : Sim M R := by
  refine ⟨st0 (fun _ _ => 0), wf_st0 _ hx, ⟨⟨w0.1, w0.2.1, w0.2.2.1, w0.2.2.2, fun q hq => absurd hq (Nat.not_lt_zero q)⟩, h8, fun i hi => ?_, h9, fun k hk => absurd hk (Nat.not_lt_zero k), h10, fun z => absurd (show false = true from z) Bool.false_ne_true, hs⟩, ⟨⟨r0.1, r0.2.1, r0.2.2.1, r0.2.2.2, fun q hq => absurd hq (Nat.not_lt_zero q)⟩, g12, fun i hi => ?_, g9, fun k hk => absurd hk (Nat.not_lt_zero k), g14, fun z => absurd (show false = true from z) Bool.false_ne_true, gs, gw⟩⟩
  · have e : i = 0 := Nat.lt_one_iff.mp hi
    subst e
    exact hT
  · have e : i = 0 := Nat.lt_one_iff.mp hi
    subst e
    exact gT
