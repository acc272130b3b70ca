/-! L2: the class' thought about one sleeper -/
theorem ghost_c {N n p : Nat} {M : Mem} {s : St} (hN : 160 < N) (hn : n ≤ 100) (hw : wfSt s) (hc : RcS M s) (hp : p < dC (aV s)) :
    ∃ M1 M2, f_X5_beginThought (nI p) M = some (true, M1) ∧ RS M1 4 (dS (aV s) p) ∧ f_X5_walkNights N (nI n) (sFJ M1 4 8 ((1 : Int64) <<< ((FI M1 4 2).toInt64 &&& 63))) = some M2 ∧ RS M2 4 (itN (aT s (dL (aV s))) (dW (aV s)) n (dN (aV s)) (dS (aV s) p)).1 ∧ FJ M2 4 8 = bitL (kC (dS (aV s) p)) ||| (itN (aT s (dL (aV s))) (dW (aV s)) n (dN (aV s)) (dS (aV s) p)).2 ∧ Mx gC M M1 ∧ Mx gC M M2 := by
  have hc6 : dC (aV s) ≤ 6 := hw.1.1
  have ki := slx_kd (wi := 1) (q := p) (by decide) (by decide) (by omega)
  have si := slx_eq (wi := 1) (by decide) (by decide) p
  obtain ⟨M1, a1, a2, a3⟩ := become_c (a := 4) (b := slx 1 p) rfl ki (by omega) (hc.1.2.2.2.2 p hp) (hw.1.2.1 p hp)
  have g1 : Mx gC M M1 := a3.wk (fun a ha => by unfold gC; omega)
  have e1 : f_X5_beginThought (nI p) M = some (true, M1) := by
    unfold f_X5_beginThought b_X5_beginThought_0
    rw [numbered_w (by decide) (by decide) hc6 hc.1.2.2.2.1, if_pos ⟨nI_pos (by omega), (nI_ltI (by omega) (by omega)).mpr hp⟩, bind_some_, oc_some_, nI_clamp (by omega), gd_t (isK_t ki), a1, bind_some_]
  have e2 : FI M1 4 2 = nI (kC (dS (aV s) p)) := a2.2.2.1
  have gs : Mx gC M1 (sFJ M1 4 8 (bitL (kC (dS (aV s) p)))) := fun a ha => ⟨fun _ => rfl, fun j => by rw [FJ_sFJ, if_neg (fun q => ha (by rw [q.1]; unfold gC; omega))], rfl⟩
  have m2 : Mx gC M (sFJ M1 4 8 (bitL (kC (dS (aV s) p)))) := g1.tr gs
  have l1 : FI (sFJ M1 4 8 (bitL (kC (dS (aV s) p)))) 1 2 = nI (dL (aV s)) := ((m2 1 (by unfold gC; omega)).1 2).trans hc.1.2.2.1
  have l2 : FI (sFJ M1 4 8 (bitL (kC (dS (aV s) p)))) 1 1 = nI (dN (aV s)) := ((m2 1 (by unfold gC; omega)).1 1).trans hc.1.2.1
  have l3 : FJ (sFJ M1 4 8 (bitL (kC (dS (aV s) p)))) 1 0 = dW (aV s) := ((m2 1 (by unfold gC; omega)).2.1 0).trans hc.1.1
  have T2 : TC (sFJ M1 4 8 (bitL (kC (dS (aV s) p)))) (aX s) (aT s) := hc.2.2.1.mx m2 hw.2.1.2.1 (fun a h1 h2 => by unfold gC; omega)
  have hn9 : dN (aV s) ≤ 999 := hw.1.2.2.1
  obtain ⟨M2, b1, b2, b3, b4⟩ := walkNights_c (N := N) (n := n) (σ := dS (aV s) p) hN hw.1.2.2.2 hw.2.1.2.1 hw.2.1.2.2 hn (show dN (aV s) < 10000 by omega) (hw.1.2.1 p hp) l1 l2 l3 T2 a2
  refine ⟨M1, M2, e1, a2, ?_, b2, ?_, g1, m2.tr (b4.wk (fun a ha => by unfold gC; omega))⟩
  · rw [e2]
    exact b1
  · rw [b3, FJ_sFJ, if_pos ⟨rfl, rfl⟩]
/-- or of f from p on, m of them -/
def orF (f : Nat → Int64) : Int64 → Nat → Nat → Int64
  | acc, _, 0 => acc
  | acc, p, m + 1 => orF f (acc ||| f p) (p + 1) m
theorem trail_c {N n e : Nat} {x1 : Int32} {s : St} (hN : 160 < N) (hn : n ≤ 100) (hw : wfSt s) (he : e ≤ dC (aV s)) : ∀ (m fu p : Nat) (acc : Int64) (M : Mem), m < fu → p + m = e → RcS M s →
    ∃ M', b_X5_trailOf_6 N x1 (nI e) (nI n) fu acc (nI p) M = some (orF (fun q => bitL (kC (dS (aV s) q)) ||| (itN (aT s (dL (aV s))) (dW (aV s)) n (dN (aV s)) (dS (aV s) q)).2) acc p m, M') ∧ RcS M' s := by
  intro m
  have hc6 : dC (aV s) ≤ 6 := hw.1.1
  induction m with
  | zero =>
    intro fu p acc M hf hp hc
    obtain ⟨fu, rfl⟩ : ∃ z, fu = z + 1 := ⟨fu - 1, by omega⟩
    rw [b_X5_trailOf_6, if_pos (nI_le (by omega) (by omega))]
    exact ⟨M, rfl, hc⟩
  | succ m ih =>
    intro fu p acc M hf hp hc
    obtain ⟨fu, rfl⟩ : ∃ z, fu = z + 1 := ⟨fu - 1, by omega⟩
    obtain ⟨M1, M2, a1, a2, a3, a4, a5, a6, a7⟩ := ghost_c (N := N) (n := n) hN hn hw hc (show p < dC (aV s) by omega)
    rw [b_X5_trailOf_6, if_neg (nI_ge (by omega) (by omega)), a1, bd2_s, if_pos rfl]
    unfold b_X5_trailOf_37 b_X5_trailOf_54
    rw [a3, bind_some_, a5, nI_1]
    exact ih fu (p + 1) _ M2 (by omega) (by omega) (hc.mg hw a7)
