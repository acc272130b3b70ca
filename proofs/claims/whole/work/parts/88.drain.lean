/-! L2: drain, drawn, odds -/
def withW (s : St) (w : Int64) : St := withV s (mkV (dC (aV s)) (dS (aV s)) w (dN (aV s)) (dL (aV s)))
theorem wf_withW {s : St} (w : Int64) (h : wfSt s) : wfSt (withW s w) := wf_sc h h.1.2.2.1 h.1.2.2.2
theorem water_set {R : Mem} {s : St} {w w' : Int64} (h : RrS R (withW s w)) : RrS (sFJ R 100 6 w') (withW s w') :=
  h.sc (s := withW s w) (fun _ _ _ => rfl) (fun k h6 => by rw [FJ_sFJ, if_neg (fun q => h6 q.2)]) (fun _ => rfl) FJ_s h.1.2.1 h.1.2.2.1
theorem mil_r {N n : Nat} {R : Mem} {s : St} (hN : 160 < N) (hn : n ≤ 100) (hw : wfSt s) (hr : RrS R s) : ∃ R', f_X6_milesBehind N (nI n) R = some (nI (wN (aT s (dL (aV s))) (dW (aV s)) (dC (aV s)) n (dN (aV s)) (dS (aV s))).1, R') ∧ RrS R' s := by
  obtain ⟨R1, R2, c1, c2, c3, c4, c5, c6, c7⟩ := think_r (N := N) (n := n) hN hn hw hr
  obtain ⟨R4, d1, d2, d3, d4⟩ := c7 R2 (Mt.rf _) rfl
  unfold f_X6_milesBehind b_X6_milesBehind_0
  rw [c1, bind_some_, c2, bind_some_, d1, bind_some_, d3, c5]
  exact ⟨R4, rfl, hr.rg hw d2⟩
theorem mil_c {N n : Nat} {M : Mem} {s : St} (w : Int64) (hN : 160 < N) (hn : n ≤ 100) (hw : wfSt s) (hc : RcS M s) : ∃ M1 M2, f_X4_becomeAs N 2 1 M = some M1 ∧ FJ M1 2 0 = dW (aV s) ∧ f_X5_passNights N (nI n) (sFJ M1 2 0 w) = some (nI (wN (aT s (dL (aV s))) w (dC (aV s)) n (dN (aV s)) (dS (aV s))).1, M2) ∧ RcS M2 s := by
  have hn9 : dN (aV s) ≤ 999 := hw.1.2.2.1
  obtain ⟨M1, a1, a2, a3⟩ := world_become (N := N) (wi := 2) (wj := 1) hN (by decide) (by decide) (by decide) (by decide) (by decide) hw.1.1 hw.1.2.1 hc.1
  have m2 : Mx gC M (sFJ M1 2 0 w) := (a3.wk (fun a ha => by unfold inW at ha; unfold gC; omega)).tr ((Mx.fj M1 2 0 w).wk (fun a ha => by unfold gC; omega))
  have hc2 := hc.mg hw m2
  obtain ⟨k0, k1, k2, k3, k4⟩ := id a2
  have W2 : WC (sFJ M1 2 0 w) 2 (dC (aV s)) (dS (aV s)) w (dN (aV s)) (dL (aV s)) := ⟨FJ_s, k1, k2, k3, k4⟩
  obtain ⟨M2, b1, b2, b3⟩ := passNights_c (N := N) (n := n) hN hw.1.1 hw.1.2.2.2 hw.2.1.2.1 hw.2.1.2.2 hn (show dN (aV s) < 10000 by omega) hw.1.2.1 hc2.1.2.2.1 hc2.2.2.1 W2
  exact ⟨M1, M2, a1, k0, b1, hc2.mg hw (b3.wk (fun a ha => ha.elim (fun z => by unfold inW at z; unfold gC; omega) (fun z => by unfold gC; omega)))⟩
theorem drain_loop {N n : Nat} {s : St} {x2 : Int32} (hN : 160 < N) (hn : n ≤ 100) (hw : wfSt s) : ∀ (m fu c : Nat) (x3 x4 : Int32) (w : Int64) (M R : Mem), m < fu → c + m = 64 → RcS M s → RrS R (withW s w) →
    ∃ r M' R', b_X5_drain_45 N (nI n) x2 fu x3 x4 (nI c) M = some (r, M') ∧ b_X6_drain_40 N (nI n) x2 fu (dW (aV s)) x4 x3 (nI c) R = some (r, R') ∧ RcS M' s ∧ RrS R' s := by
  intro m
  induction m with
  | zero =>
    intro fu c x3 x4 w M R hf hv hc hr
    obtain ⟨fu, rfl⟩ : ∃ z, fu = z + 1 := ⟨fu - 1, by omega⟩
    have : c = 64 := by omega
    subst this
    rw [b_X5_drain_45, b_X6_drain_40, if_pos (show (64 : Int32) ≤ nI 64 by decide), if_pos (show (64 : Int32) ≤ nI 64 by decide)]
    unfold b_X6_drain_122
    have h : RrS (sFJ R 100 6 (dW (aV s))) s := water_set (w' := dW (aV s)) hr
    by_cases z : x2 = 0
    · rw [if_pos z, if_pos z]
      exact ⟨_, _, _, rfl, rfl, hc, h⟩
    · rw [if_neg z, if_neg z]
      exact ⟨_, _, _, rfl, rfl, hc, h⟩
  | succ m ih =>
    intro fu c x3 x4 w M R hf hv hc hr
    obtain ⟨fu, rfl⟩ : ∃ z, fu = z + 1 := ⟨fu - 1, by omega⟩
    rw [b_X5_drain_45, b_X6_drain_40, if_neg (show ¬ (64 : Int32) ≤ nI c from nI_ge (b := 64) (by omega) (by decide)), if_neg (show ¬ (64 : Int32) ≤ nI c from nI_ge (b := 64) (by omega) (by decide)), show FJ M 1 0 = dW (aV s) from hc.1.1, water_c, bind_some_, wetB_bit _ (show c < 64 by omega)]
    by_cases q : (dW (aV s)).toBitVec.getLsbD c = true
    · obtain ⟨M1, M2, a1, a2, a3, a4⟩ := mil_c (N := N) (n := n) (dW (aV s) &&& (bitL c ^^^ (-1 : Int64))) hN hn hw hc
      have h := water_set (w' := dW (aV s) &&& (bitL c ^^^ (-1 : Int64))) hr
      obtain ⟨R1, b1, b2⟩ := mil_r (N := N) (n := n) hN hn (wf_withW _ hw) h
      have b1' : f_X6_milesBehind N (nI n) (sFJ R 100 6 (dW (aV s) &&& (bitL c ^^^ (-1 : Int64)))) = some (nI (wN (aT s (dL (aV s))) (dW (aV s) &&& (bitL c ^^^ (-1 : Int64))) (dC (aV s)) n (dN (aV s)) (dS (aV s))).1, R1) := b1
      rw [if_pos q, a1, bind_some_, a2, if_pos ((bit1_r _ (show c < 64 by omega)).mpr q)]
      unfold b_X5_drain_101 b_X6_drain_72
      rw [show f_X5_passNights N (nI n) (sFJ M1 2 0 (dW (aV s) &&& (((1 : Int64) <<< ((nI c).toInt64 &&& 63)) ^^^ (-1 : Int64)))) = _ from a3, bd2_s, show f_X6_milesBehind N (nI n) (sFJ R 100 6 (dW (aV s) &&& (((1 : Int64) <<< ((nI c).toInt64 &&& 63)) ^^^ (-1 : Int64)))) = _ from b1', bd2_s]
      unfold b_X5_drain_121 b_X6_drain_93 b_X6_drain_109 b_X6_drain_111
      rw [nI_1]
      by_cases z : nI (wN (aT s (dL (aV s))) (dW (aV s) &&& (bitL c ^^^ (-1 : Int64))) (dC (aV s)) n (dN (aV s)) (dS (aV s))).1 ≤ x3
      · rw [if_pos z, if_pos z, if_pos z]
        exact ih fu (c + 1) _ _ _ M2 R1 (by omega) (by omega) a4 b2
      · rw [if_neg z, if_neg z, if_neg z]
        exact ih fu (c + 1) _ _ _ M2 R1 (by omega) (by omega) a4 b2
    · rw [if_neg q, if_neg (fun z => q ((bit1_r _ (show c < 64 by omega)).mp z))]
      unfold b_X5_drain_121 b_X6_drain_111
      rw [nI_1]
      exact ih fu (c + 1) _ _ w M R (by omega) (by omega) hc hr
theorem st_drain {N : Nat} {M R : Mem} (hN : 160 < N) (x1 x2 : Int32) (h : Sim M R) : ∃ r M' R', f_X5_drain N x1 x2 M = some (r, M') ∧ f_X6_drain N x1 x2 R = some (r, R') ∧ Sim M' R' := by
  obtain ⟨s, hw, hc, hr⟩ := h
  have bad : Sim M R := ⟨s, hw, hc, hr⟩
  unfold f_X5_drain b_X5_drain_0 f_X6_drain b_X6_drain_0 b_X5_drain_22
  rw [in_r, bind_some_]
  by_cases b1 : x1 < 0
  · rw [if_pos b1, decide_eq_false (fun q => q.1 b1), if_neg Bool.false_ne_true]
    exact ⟨_, M, R, rfl, rfl, bad⟩
  by_cases b2 : (20 : Int32) < x1
  · rw [if_neg b1, if_pos b2, decide_eq_false (fun q => q.2 b2), if_neg Bool.false_ne_true]
    exact ⟨_, M, R, rfl, rfl, bad⟩
  rw [if_neg b1, if_neg b2, decide_eq_true ⟨b1, b2⟩, if_pos rfl]
  rcases bit1_b x2 with ⟨z, hz, rfl, hz2⟩ | ⟨z0, z1, z2⟩
  rotate_left
  · rw [two_no z0 z1, z2, bind_some_, if_neg Bool.false_ne_true]
    exact ⟨_, M, R, rfl, rfl, bad⟩
  rw [two_br hz2, show f_X6_in (nI z) 0 1 R = some true from in_yes (n := 1) (by decide) hz R, bind_some_, if_pos rfl]
  obtain ⟨n, hn0, rfl⟩ := nn_ex b1
  have hn : n ≤ 20 := by
    rw [lk_20, ltI (by decide) hn0] at b2
    omega
  obtain ⟨M1, M2, a1, a2, a3, a4⟩ := think_c (N := N) (n := n) hN (by omega) hw hc
  obtain ⟨R1, d1, d2⟩ := mil_r (N := N) (n := n) hN (by omega) hw hr
  rw [a1, bind_some_, a2, bd2_s, d1, bd2_s, show FJ R 100 6 = dW (aV s) from hr.1.1]
  obtain ⟨r, M', R', g1, g2, g3, g4⟩ := drain_loop (N := N) (n := n) (x2 := nI z) hN (by omega) hw 64 N 0 (nI (wN (aT s (dL (aV s))) (dW (aV s)) (dC (aV s)) n (dN (aV s)) (dS (aV s))).1) (-1) (dW (aV s)) M2 R1 (by omega) (by omega) (hc.mg hw a4) d2
  exact ⟨r, M', R', g1, g2, s, hw, g3, g4⟩
/-! floods -/
def lotN (y : Int64) : Int64 := (y * (48271 : Int64)) - (y * (48271 : Int64)) / (2147483647 : Int64) * (2147483647 : Int64)
def lotB (y : Int64) : Int64 := (1 : Int64) <<< (((y - y / (64 : Int64) * (64 : Int64)).toInt32).toInt64 &&& 63)
def flN (x : Txt) (cnt : Nat) : Nat → Nat → Int64 → Int64 → (Nat → Sl) → Nat × (Nat → Sl)
  | 0, _, _, _, σf => (0, σf)
  | m + 1, night, y, w, σf => (sumF (fun q => (walkS x night (w ^^^ lotB (lotN y)) (σf q)).1) cnt + (flN x cnt m (night + 1) (lotN y) (w ^^^ lotB (lotN y)) (fun q => (walkS x night (w ^^^ lotB (lotN y)) (σf q)).2.1)).1, (flN x cnt m (night + 1) (lotN y) (w ^^^ lotB (lotN y)) (fun q => (walkS x night (w ^^^ lotB (lotN y)) (σf q)).2.1)).2)
theorem wf_fl {x : Txt} {cnt : Nat} : ∀ (m night : Nat) (y w : Int64) (σf : Nat → Sl), (∀ q, q < cnt → wfS (σf q)) → ∀ q, q < cnt → wfS ((flN x cnt m night y w σf).2 q)
  | 0, _, _, _, _, h => h
  | m + 1, night, y, w, σf, h => wf_fl m (night + 1) (lotN y) (w ^^^ lotB (lotN y)) _ (fun q hq => wf_walk (h q hq))
theorem fl_c {N : Nat} {s : St} {x1 : Int32} (hN : 160 < N) (hw : wfSt s) : ∀ (m fu j acc night : Nat) (y w : Int64) (σf : Nat → Sl) (M : Mem), m < fu → j + m = 8 → night + m < 10000 → (∀ q, q < dC (aV s) → wfS (σf q)) → RcS M s → WC M 2 (dC (aV s)) σf w night (dL (aV s)) →
    ∃ M' w', b_X5_passFloods_22 N x1 fu y (nI acc) (nI j) M = some (nI (acc + (flN (aT s (dL (aV s))) (dC (aV s)) m night y w σf).1), M') ∧ RcS M' s ∧ WC M' 2 (dC (aV s)) (flN (aT s (dL (aV s))) (dC (aV s)) m night y w σf).2 w' (night + m) (dL (aV s)) := by
  intro m
  have hc6 : dC (aV s) ≤ 6 := hw.1.1
  have ht := hw.1.2.2.2
  induction m with
  | zero =>
    intro fu j acc night y w σf M hf hj hn hwf hc hW
    obtain ⟨fu, rfl⟩ : ∃ z, fu = z + 1 := ⟨fu - 1, by omega⟩
    have : j = 8 := by omega
    subst this
    rw [b_X5_passFloods_22, if_pos (show (8 : Int32) ≤ nI 8 by decide)]
    exact ⟨M, w, rfl, hc, hW⟩
  | succ m ih =>
    intro fu j acc night y w σf M hf hj hn hwf hc hW
    obtain ⟨fu, rfl⟩ : ∃ z, fu = z + 1 := ⟨fu - 1, by omega⟩
    rw [b_X5_passFloods_22, if_neg (show ¬ (8 : Int32) ≤ nI j from nI_ge (b := 8) (by omega) (by decide))]
    unfold b_X5_passFloods_39 b_X5_passFloods_59
    obtain ⟨k0, k1, k2, k3, k4⟩ := id hW
    have hc1 : RcS (sFJ M 2 0 (w ^^^ lotB (lotN y))) s := hc.mg hw ((Mx.fj M 2 0 _).wk (fun a ha => by unfold gC; omega))
    have W1 : WC (sFJ M 2 0 (w ^^^ lotB (lotN y))) 2 (dC (aV s)) σf (w ^^^ lotB (lotN y)) night (dL (aV s)) := ⟨FJ_s, k1, k2, k3, k4⟩
    obtain ⟨M1, e1, W2, m1⟩ := pass_c (N := N) (t := 46 + dL (aV s)) hN (by decide : 1 ≤ 2) (by decide) hc6 (kdt hw ht) (hw.2.1.2.2 _ ht) (by omega) hwf W1 (hc1.2.2.1 _ ht)
    rw [k0, show sFJ M 2 0 (w ^^^ ((1 : Int64) <<< ((((y * (48271 : Int64)) - (y * (48271 : Int64)) / (2147483647 : Int64) * (2147483647 : Int64)) - ((y * (48271 : Int64)) - (y * (48271 : Int64)) / (2147483647 : Int64) * (2147483647 : Int64)) / (64 : Int64) * (64 : Int64)).toInt32.toInt64 &&& 63))) = sFJ M 2 0 (w ^^^ lotB (lotN y)) from rfl, law_s hw hc1, bind_some_, gd_t (isK_t (kdt hw ht)), e1, bd2_s, nI_1, nI_add]
    obtain ⟨M', w', a1, a2, a3⟩ := ih fu (j + 1) (acc + sumF (fun q => (walkS (aT s (dL (aV s))) night (w ^^^ lotB (lotN y)) (σf q)).1) (dC (aV s))) (night + 1) (lotN y) (w ^^^ lotB (lotN y)) _ M1 (by omega) (by omega) (by omega) (fun q hq => wf_walk (hwf q hq)) (hc1.mg hw (m1.wk (fun a ha => ha.elim (fun z => by unfold inW at z; unfold gC; omega) (fun z => by unfold gC; omega)))) W2
    refine ⟨M', w', ?_, a2, ?_⟩
    · rw [Nat.add_assoc] at a1
      exact a1
    · rw [show night + 1 + m = night + (m + 1) by omega] at a3
      exact a3
theorem fl_r {N cnt law tx : Nat} {tf : Nat → Txt} {x1 : Int32} {y4 : Int64} (hN : 160 < N) (hc : cnt ≤ 6) (hl : law < tx) (htx : tx ≤ 6) (hxf : ∀ i, i < tx → wfT (tf i)) : ∀ (m fu j night : Nat) (y w : Int64) (σf : Nat → Sl) (R : Mem), m < fu → j + m = 8 → night + m < 10000 → (∀ q, q < cnt → wfS (σf q)) → TR R tx tf → WR R cnt σf w night law →
    ∃ R' w', b_X6_floods_23 N x1 fu y y4 (nI j) R = ((f_X6_twosNow N R').bind fun r69 => b_X6_floods_75 N x1 y4 (sFI R' 100 36 r69)) ∧ WR R' cnt (flN (tf law) cnt m night y w σf).2 w' (night + m) law ∧ Mt R R' ∧ FI R' 100 34 = FI R 100 34 + nI (flN (tf law) cnt m night y w σf).1 := by
  intro m
  induction m with
  | zero =>
    intro fu j night y w σf R hf hj hn hwf hT hW
    obtain ⟨fu, rfl⟩ : ∃ z, fu = z + 1 := ⟨fu - 1, by omega⟩
    have : j = 8 := by omega
    subst this
    rw [b_X6_floods_23, if_pos (show (8 : Int32) ≤ nI 8 by decide)]
    refine ⟨R, w, rfl, hW, Mt.rf R, ?_⟩
    show _ = _ + nI 0
    rw [show nI 0 = 0 from rfl, Int32.add_zero]
  | succ m ih =>
    intro fu j night y w σf R hf hj hn hwf hT hW
    obtain ⟨fu, rfl⟩ : ∃ z, fu = z + 1 := ⟨fu - 1, by omega⟩
    rw [b_X6_floods_23, if_neg (show ¬ (8 : Int32) ≤ nI j from nI_ge (b := 8) (by omega) (by decide))]
    unfold b_X6_floods_40 b_X6_floods_57
    obtain ⟨k0, k1, k2, k3, k4⟩ := id hW
    have m0 : Mt R (sFJ R 100 6 (w ^^^ lotB (lotN y))) := ⟨fun _ _ _ _ => rfl, fun k h6 => by rw [FJ_sFJ, if_neg (fun q => h6 q.2)], fun _ _ _ _ => rfl⟩
    have W1 : WR (sFJ R 100 6 (w ^^^ lotB (lotN y))) cnt σf (w ^^^ lotB (lotN y)) night law := ⟨FJ_s, k1, k2, k3, k4⟩
    obtain ⟨R1, e1, W2, m1, f1, -⟩ := night_w (N := N) hN hc hl htx hxf (by omega) hwf (hT.mt m0) W1
    have mt := m0.tr (Mt.mn m1)
    rw [k0, show sFJ R 100 6 (w ^^^ ((1 : Int64) <<< ((((y * (48271 : Int64)) - (y * (48271 : Int64)) / (2147483647 : Int64) * (2147483647 : Int64)) - ((y * (48271 : Int64)) - (y * (48271 : Int64)) / (2147483647 : Int64) * (2147483647 : Int64)) / (64 : Int64) * (64 : Int64)).toInt32.toInt64 &&& 63))) = sFJ R 100 6 (w ^^^ lotB (lotN y)) from rfl, e1, bind_some_, nI_1]
    obtain ⟨R', w', a1, a2, a3, a4⟩ := ih fu (j + 1) (night + 1) (lotN y) (w ^^^ lotB (lotN y)) _ R1 (by omega) (by omega) (by omega) (fun q hq => wf_walk (hwf q hq)) (hT.mt mt) W2
    refine ⟨R', w', a1, ?_, mt.tr a3, ?_⟩
    · rw [show night + 1 + m = night + (m + 1) by omega] at a2
      exact a2
    · rw [a4, f1, Int32.add_assoc, nI_add]
      rfl
theorem flood_b {N : Nat} {M R : Mem} {s : St} (x : Int32) (hN : 160 < N) (hw : wfSt s) (hc : RcS M s) (hr : RrS R s) : ∃ r M' R' t, f_X5_passFloods N x M = some (r, M') ∧ f_X6_floods N x R = some (r, R') ∧ RcS M' s ∧ RrS R' s ∧ f_X4_twos N 2 M' = some t ∧ FI R' 100 36 = t := by
  have hc6 : dC (aV s) ≤ 6 := hw.1.1
  have hn9 : dN (aV s) ≤ 999 := hw.1.2.2.1
  obtain ⟨M1, a1, a2, a3⟩ := world_become (N := N) (wi := 2) (wj := 1) hN (by decide) (by decide) (by decide) (by decide) (by decide) hw.1.1 hw.1.2.1 hc.1
  have hc1 := hc.mg hw (a3.wk (fun a ha => by unfold inW at ha; unfold gC; omega) : Mx gC M M1)
  obtain ⟨M2, w', b1, b2, b3⟩ := fl_c (N := N) (x1 := x) hN hw 8 N 0 0 (dN (aV s)) (x.toInt64 + (1 : Int64)) (dW (aV s)) (dS (aV s)) M1 (by omega) (by omega) (by omega) hw.1.2.1 hc1 a2
  obtain ⟨g, k1, k2, k3⟩ := keeps_r (N := N) (R := R) hN
  have m0 : Mt (rAI R 120 g) (sFI (rAI R 120 g) 100 34 0) := ⟨fun k h1 _ _ => FI_n h1, fun _ _ => rfl, fun _ _ _ _ => rfl⟩
  have W0 : WR (sFI (rAI R 120 g) 100 34 0) (dC (aV s)) (dS (aV s)) (dW (aV s)) (dN (aV s)) (dL (aV s)) := by
    obtain ⟨q0, q1, q2, q3, q4⟩ := hr.1
    exact ⟨q0, (FI_n (by decide)).trans q1, (FI_n (by decide)).trans q2, (FI_n (by decide)).trans q3, q4⟩
  have T0 : TR (sFI (rAI R 120 g) 100 34 0) (aX s) (aT s) := hr.2.2.1
  obtain ⟨R2, w2, d1, d2, d3, d4⟩ := fl_r (N := N) (x1 := x) (y4 := FJ R 100 6) hN hc6 hw.1.2.2.2 hw.2.1.2.1 hw.2.1.2.2 8 N 0 (dN (aV s)) (x.toInt64 + (1 : Int64)) (dW (aV s)) (dS (aV s)) _ (by omega) (by omega) (by omega) hw.1.2.1 T0 W0
  have wfe := wf_fl (x := aT s (dL (aV s))) (cnt := dC (aV s)) 8 (dN (aV s)) (x.toInt64 + (1 : Int64)) (dW (aV s)) (dS (aV s)) hw.1.2.1
  have t1 := twos_c (N := N) (wi := 2) (f := fun q => kC ((flN (aT s (dL (aV s))) (dC (aV s)) 8 (dN (aV s)) (x.toInt64 + (1 : Int64)) (dW (aV s)) (dS (aV s))).2 q)) hN (by decide) (by decide) hc6 b3.2.2.2.1 (fun q hq => (wfe q hq).2.2.1) (fun q hq => (b3.2.2.2.2 q hq).2.2.1) (dC (aV s)) N 0 (by omega) (by omega)
  have t2 := twos_r (N := N) (f := fun q => kC ((flN (aT s (dL (aV s))) (dC (aV s)) 8 (dN (aV s)) (x.toInt64 + (1 : Int64)) (dW (aV s)) (dS (aV s))).2 q)) hN hc6 d2.2.2.2.1 (fun q hq => (wfe q hq).2.2.1) (fun q hq => (d2.2.2.2.2 q hq).2.2.1) (dC (aV s)) N 0 (by omega) (by omega)
  have t3 := tw_eq (fun a b => if kC ((flN (aT s (dL (aV s))) (dC (aV s)) 8 (dN (aV s)) (x.toInt64 + (1 : Int64)) (dW (aV s)) (dS (aV s))).2 a) = kC ((flN (aT s (dL (aV s))) (dC (aV s)) 8 (dN (aV s)) (x.toInt64 + (1 : Int64)) (dW (aV s)) (dS (aV s))).2 b) then 1 else 0) (fun a b => by simp only [eq_comm]) hc6
  have t1' : f_X4_twos N 2 M2 = _ := t1
  have t2' : f_X6_twosNow N R2 = _ := t2
  have m3 : Mt R2 (sFI R2 100 36 (nI (sumF (fun p => sumF (fun j => if kC ((flN (aT s (dL (aV s))) (dC (aV s)) 8 (dN (aV s)) (x.toInt64 + (1 : Int64)) (dW (aV s)) (dS (aV s))).2 p) = kC ((flN (aT s (dL (aV s))) (dC (aV s)) 8 (dN (aV s)) (x.toInt64 + (1 : Int64)) (dW (aV s)) (dS (aV s))).2 (p + 1 + j)) then 1 else 0) (dC (aV s) - (p + 1))) (dC (aV s))))) := ⟨fun k _ _ h3 => FI_n h3, fun _ _ => rfl, fun _ _ _ _ => rfl⟩
  obtain ⟨R3, g1, ⟨g2, g3, g4, g5⟩, g6, g7, g8, g9⟩ := lays_r (N := N) hN k2 k3 ((m0.tr d3).tr m3)
  unfold f_X5_passFloods b_X5_passFloods_0 f_X6_floods b_X6_floods_0 b_X6_floods_20
  rw [a1, bind_some_, show b_X5_passFloods_22 N x N (x.toInt64 + (1 : Int64)) (0 : Int32) (0 : Int32) M1 = _ from b1, k1, bind_some_, show b_X6_floods_23 N x N (x.toInt64 + (1 : Int64)) (FJ R 100 6) (0 : Int32) (sFI (rAI R 120 g) 100 34 0) = _ from d1, t2', bind_some_]
  unfold b_X6_floods_75 b_X6_floods_85
  rw [g1, bind_some_]
  refine ⟨_, M2, sFJ R3 100 6 (FJ R 100 6), _, rfl, ?_, b2, hr.rg hw ⟨fun k h1 h2 => g2 k h1 h2, fun j => ?_, g4, g5⟩, t1', ?_⟩
  · rw [FI_sFJ, g6, FI_n (by decide), d4, FI_s, Nat.zero_add, Int32.zero_add]
  · by_cases h6 : j = 6
    · subst h6
      exact FJ_s
    · rw [FJ_sFJ, if_neg (fun q => h6 q.2)]
      exact g3 j h6
  · rw [FI_sFJ, g7, FI_s, ← t3]
theorem st_drawn {N : Nat} {M R : Mem} (hN : 160 < N) (x1 x2 : Int32) (h : Sim M R) : ∃ r M' R', f_X5_drawn N x1 x2 M = some (r, M') ∧ f_X6_drawn N x1 x2 R = some (r, R') ∧ Sim M' R' := by
  obtain ⟨s, hw, hc, hr⟩ := h
  have bad : Sim M R := ⟨s, hw, hc, hr⟩
  unfold f_X5_drawn b_X5_drawn_0 f_X6_drawn b_X6_drawn_0 b_X5_drawn_23
  rw [show (100000 : Int32) = nI 100000 from rfl, show (99999 : Int32) = nI 99999 from rfl]
  rcases rg_b x1 100000 (by decide) with ⟨sd, hs, rfl⟩ | hb
  rotate_left
  · rw [cl_no hb, show f_X6_in x1 0 (nI 99999) R = some false from in_no (by decide) hb R, bind_some_, if_neg Bool.false_ne_true]
    exact ⟨_, M, R, rfl, rfl, bad⟩
  rw [cl_yes hs (by decide), show f_X6_in (nI sd) 0 (nI 99999) R = some true from in_yes (by decide) (by omega) R, bind_some_, if_pos rfl]
  rcases bit1_b x2 with ⟨z, hz, rfl, hz2⟩ | ⟨z0, z1, z2⟩
  rotate_left
  · rw [two_no z0 z1, z2, bind_some_, if_neg Bool.false_ne_true]
    exact ⟨_, M, R, rfl, rfl, bad⟩
  obtain ⟨r, M', R', t, a1, a2, a3, a4, a5, a6⟩ := flood_b (N := N) (nI sd) hN hw hc hr
  rw [two_br hz2, show f_X6_in (nI z) 0 1 R = some true from in_yes (n := 1) (by decide) hz R, bind_some_, if_pos rfl, a1, bd2_s, a2, bd2_s, a5, bind_some_, a6]
  by_cases e : nI z = 0
  · rw [if_pos e, if_pos e]
    exact ⟨_, M', R', rfl, rfl, s, hw, a3, a4⟩
  · rw [if_neg e, if_neg e]
    exact ⟨_, M', R', rfl, rfl, s, hw, a3, a4⟩
theorem odds_loop {N sd n z : Nat} {s : St} {x3 : Int32} (hN : 160 < N) (hw : wfSt s) (hn0 : 1 ≤ n) (hn : n ≤ 40) (hz : z ≤ 1) : ∀ (m fu k a : Nat) (M R : Mem), m < fu → k + m = n → a ≤ k → RcS M s → RrS R s →
    ∃ r M' R', b_X5_odds_58 N (nI sd) (nI n) x3 (nI z) fu (nI a) (nI k) M = some (r, M') ∧ b_X6_odds_52 N (nI sd) (nI n) x3 (nI z) fu (lN a) (nI k) R = some (r, R') ∧ RcS M' s ∧ RrS R' s := by
  intro m
  induction m with
  | zero =>
    intro fu k a M R hf hk ha hc hr
    obtain ⟨fu, rfl⟩ : ∃ z, fu = z + 1 := ⟨fu - 1, by omega⟩
    obtain ⟨y, g1, g2⟩ := lowest_b (N := N) (M := M) (R := R) (a := a) (b := n) (p := z) hN (by omega) (by omega) (by omega) hz
    rw [b_X5_odds_58, b_X6_odds_52, if_pos (nI_le (by omega) (by omega)), if_pos (nI_le (by omega) (by omega)), nI_l (show a < 2 ^ 31 by omega), nI_l (show n < 2 ^ 31 by omega), g1, bind_some_, g2, bind_some_]
    exact ⟨_, _, _, rfl, rfl, hc, hr⟩
  | succ m ih =>
    intro fu k a M R hf hk ha hc hr
    obtain ⟨fu, rfl⟩ : ∃ z, fu = z + 1 := ⟨fu - 1, by omega⟩
    obtain ⟨r, M', R', t, a1, a2, a3, a4, a5, a6⟩ := flood_b (N := N) (nI sd + nI k) hN hw hc hr
    rw [b_X5_odds_58, b_X6_odds_52, if_neg (nI_ge (by omega) (by omega)), if_neg (nI_ge (by omega) (by omega)), a1, bd2_s, a2, bd2_s]
    unfold b_X5_odds_79 b_X6_odds_77
    by_cases e : r < x3
    · rw [if_pos e, if_pos e, Int64.add_zero, nI_1]
      exact ih fu (k + 1) a M' R' (by omega) (by omega) (by omega) a3 a4
    · rw [if_neg e, if_neg e, lN_1, nI_1, nI_1]
      exact ih fu (k + 1) (a + 1) M' R' (by omega) (by omega) (by omega) a3 a4
theorem st_odds {N : Nat} {M R : Mem} (hN : 160 < N) (x1 x2 x3 x4 : Int32) (h : Sim M R) : ∃ r M' R', f_X5_odds N x1 x2 x3 x4 M = some (r, M') ∧ f_X6_odds N x1 x2 x3 x4 R = some (r, R') ∧ Sim M' R' := by
  obtain ⟨s, hw, hc, hr⟩ := h
  have bad : Sim M R := ⟨s, hw, hc, hr⟩
  unfold f_X5_odds b_X5_odds_0 f_X6_odds b_X6_odds_0 b_X5_odds_52
  rw [show (100000 : Int32) = nI 100000 from rfl, show (99999 : Int32) = nI 99999 from rfl]
  rcases rg_b x1 100000 (by decide) with ⟨sd, hs, rfl⟩ | hb
  rotate_left
  · rw [cl_no hb, show f_X6_in x1 0 (nI 99999) R = some false from in_no (by decide) hb R, bind_some_, if_neg Bool.false_ne_true]
    exact ⟨_, M, R, rfl, rfl, bad⟩
  rw [cl_yes hs (by decide), show f_X6_in (nI sd) 0 (nI 99999) R = some true from in_yes (by decide) (by omega) R, bind_some_, if_pos rfl, in_r, bind_some_]
  by_cases c1 : x2 < (1 : Int32)
  · rw [if_pos c1, decide_eq_false (fun q => q.1 c1), if_neg Bool.false_ne_true]
    exact ⟨_, M, R, rfl, rfl, bad⟩
  by_cases c2 : x2 ≤ (40 : Int32)
  rotate_left
  · rw [if_neg c1, if_neg c2, decide_eq_false (fun q => q.2 (Int32.not_le.mp c2)), if_neg Bool.false_ne_true]
    exact ⟨_, M, R, rfl, rfl, bad⟩
  rw [if_neg c1, if_pos c2, decide_eq_true ⟨c1, Int32.not_lt.mpr c2⟩, if_pos rfl, in_r, bind_some_]
  by_cases c3 : x3 < 0
  · rw [if_pos c3, decide_eq_false (fun q => q.1 c3), if_neg Bool.false_ne_true]
    exact ⟨_, M, R, rfl, rfl, bad⟩
  by_cases c4 : (999 : Int32) < x3
  · rw [if_neg c3, if_pos c4, decide_eq_false (fun q => q.2 c4), if_neg Bool.false_ne_true]
    exact ⟨_, M, R, rfl, rfl, bad⟩
  rw [if_neg c3, if_neg c4, decide_eq_true ⟨c3, c4⟩, if_pos rfl]
  rcases bit1_b x4 with ⟨z, hz, rfl, hz2⟩ | ⟨z0, z1, z2⟩
  rotate_left
  · rw [two_no z0 z1, z2, bind_some_, if_neg Bool.false_ne_true]
    exact ⟨_, M, R, rfl, rfl, bad⟩
  rw [two_br hz2, show f_X6_in (nI z) 0 1 R = some true from in_yes (n := 1) (by decide) hz R, bind_some_, if_pos rfl]
  obtain ⟨n, hn0, rfl⟩ := nn_ex (x := x2) (fun q => c1 (Int32.lt_trans q (by decide)))
  have hn1 : 1 ≤ n := by
    rw [lk_1, ltI hn0 (by decide)] at c1
    omega
  have hn40 : n ≤ 40 := by
    rw [lk_40, leI hn0 (by decide)] at c2
    exact c2
  obtain ⟨r, M', R', a1, a2, a3, a4⟩ := odds_loop (N := N) (sd := sd) (n := n) (z := z) (x3 := x3) hN hw hn1 hn40 hz n N 0 0 M R (by omega) (by omega) (by omega) hc hr
  exact ⟨r, M', R', a1, a2, s, hw, a3, a4⟩
