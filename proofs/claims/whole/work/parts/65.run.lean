/-! L2: run -/
/-- the class thinks n nights ahead -/
theorem think_c {N n : Nat} {M : Mem} {s : St} (hN : 160 < N) (hn : n ≤ 100) (hw : wfSt s) (hc : RcS M s) :
    ∃ M1 M2, f_X4_becomeAs N 2 1 M = some M1 ∧ f_X5_passNights N (nI n) M1 = some (nI (wN (aT s (dL (aV s))) (dW (aV s)) (dC (aV s)) n (dN (aV s)) (dS (aV s))).1, M2) ∧ WC M2 2 (dC (aV s)) (wN (aT s (dL (aV s))) (dW (aV s)) (dC (aV s)) n (dN (aV s)) (dS (aV s))).2 (dW (aV s)) (dN (aV s) + n) (dL (aV s)) ∧ Mx gC M M2 := by
  obtain ⟨M1, a1, a2, a3⟩ := world_become (N := N) (wi := 2) (wj := 1) hN (by decide) (by decide) (by decide) (by decide) (by decide) hw.1.1 hw.1.2.1 hc.1
  have g3 : Mx gC M M1 := a3.wk (fun a ha => by unfold inW at ha; unfold gC; omega)
  have l1 : FI M1 1 2 = nI (dL (aV s)) := ((a3 1 (by unfold inW; omega)).1 2).trans hc.1.2.2.1
  have T1 : TC M1 (aX s) (aT s) := hc.2.2.1.mx a3 hw.2.1.2.1 (fun a h1 h2 => by unfold inW; omega)
  have hn9 : dN (aV s) ≤ 999 := hw.1.2.2.1
  obtain ⟨M2, b1, b2, b3⟩ := passNights_c (N := N) (n := n) hN hw.1.1 hw.1.2.2.2 hw.2.1.2.1 hw.2.1.2.2 hn (show dN (aV s) < 10000 by omega) hw.1.2.1 l1 T1 a2
  exact ⟨M1, M2, a1, b1, b2, g3.tr (b3.wk (fun a ha => ha.elim (fun z => by unfold inW at z; unfold gC; omega) (fun z => by unfold gC; omega)))⟩
/-- the reference thinks n nights ahead, asks, and lays back -/
theorem think_r {N n : Nat} {R : Mem} {s : St} (hN : 160 < N) (hn : n ≤ 100) (hw : wfSt s) (hr : RrS R s) :
    ∃ R1 R2, f_X6_keeps N R = some R1 ∧ f_X6_goes N (nI n) R1 = some R2 ∧ WR R2 (dC (aV s)) (wN (aT s (dL (aV s))) (dW (aV s)) (dC (aV s)) n (dN (aV s)) (dS (aV s))).2 (dW (aV s)) (dN (aV s) + n) (dL (aV s)) ∧ TR R2 (aX s) (aT s) ∧ FI R2 100 34 = nI (wN (aT s (dL (aV s))) (dW (aV s)) (dC (aV s)) n (dN (aV s)) (dS (aV s))).1 ∧ (∀ q, q < dC (aV s) → AJ R2 119 q = bitL (kC (dS (aV s) q)) ||| (itN (aT s (dL (aV s))) (dW (aV s)) n (dN (aV s)) (dS (aV s) q)).2) ∧
    ∀ R3, Mt R2 R3 → FJ R3 100 6 = FJ R2 100 6 → ∃ R4, f_X6_lays N R3 = some R4 ∧ Rg R R4 ∧ FI R4 100 34 = FI R3 100 34 ∧ AJ R4 119 = AJ R3 119 := by
  obtain ⟨g, e1, e2, e3⟩ := keeps_r (N := N) (R := R) hN
  have hn9 : dN (aV s) ≤ 999 := hw.1.2.2.1
  have W1 : WR (rAI R 120 g) (dC (aV s)) (dS (aV s)) (dW (aV s)) (dN (aV s)) (dL (aV s)) := hr.1
  have T1 : TR (rAI R 120 g) (aX s) (aT s) := hr.2.2.1
  obtain ⟨R2, b1, b2, b3, b4, b5, b6⟩ := goes_rN (N := N) (n := n) hN hw.1.1 hw.1.2.2.2 hw.2.1.2.1 hw.2.1.2.2 hn (show dN (aV s) < 10000 by omega) hw.1.2.1 T1 W1
  refine ⟨_, R2, e1, b1, b2, T1.mt b3, b4, b6, fun R3 m3 j3 => ?_⟩
  obtain ⟨R4, c1, ⟨c2, c3, c4, c5⟩, c6, c7, c8, c9⟩ := lays_r (N := N) hN e2 e3 (b3.tr m3)
  refine ⟨R4, c1, ⟨c2, fun k => ?_, c4, c5⟩, c6, c9⟩
  by_cases k6 : k = 6
  · subst k6
    rw [c8, j3, b2.1]
    exact hr.1.1.symm
  · exact c3 k k6
theorem wf_wN {x : Txt} {w : Int64} {cnt : Nat} (k night : Nat) {σf : Nat → Sl} (h : ∀ q, q < cnt → wfS (σf q)) : ∀ q, q < cnt → wfS ((wN x w cnt k night σf).2 q) := fun q hq => by
  rw [wN_it]
  exact wf_it k night (h q hq)
