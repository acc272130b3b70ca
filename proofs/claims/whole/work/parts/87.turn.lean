/-! L2: turn, anew -/
theorem turn_one_r {N n p way : Nat} {R : Mem} {s : St} (hN : 160 < N) (hn : n ≤ 100) (hw : wfSt s) (hr : RrS R s) (hp : p < dC (aV s)) (hway : way < 4) : ∃ R1 R2 R3, f_X6_keeps N R = some R1 ∧ f_X6_goes N (nI n) (sAI R1 103 (5 * p + 1) (nI way)) = some R2 ∧ AI R2 103 (5 * p + 3) = nI (kT (itN (aT s (dL (aV s))) (dW (aV s)) n (dN (aV s)) (fldS (dS (aV s) p) 1 way)).1) ∧ f_X6_lays N R2 = some R3 ∧ RrS R3 s := by
  have hc6 : dC (aV s) ≤ 6 := hw.1.1
  have hn9 : dN (aV s) ≤ 999 := hw.1.2.2.1
  have hwf := hw.1.2.1 p hp
  have wf1 := wf_fld (what := 1) (v := way) hwf (by decide) hway
  obtain ⟨g, e1, e2, e3⟩ := keeps_r (N := N) (R := R) hN
  have mp := Mp.row (rAI R 120 g) (p := p) (k := 5 * p + 1) (nI way) (by omega) (by omega)
  have W0 : WR (rAI R 120 g) (dC (aV s)) (dS (aV s)) (dW (aV s)) (dN (aV s)) (dL (aV s)) := hr.1
  have T0 : TR (rAI R 120 g) (aX s) (aT s) := hr.2.2.1
  have W1 := WR.mp W0 hw.1.2.1 mp (fld_r (what := 1) (W0.2.2.2.2 p hp) (by decide) way)
  have T1 : TR (sAI (rAI R 120 g) 103 (5 * p + 1) (nI way)) (aX s) (aT s) := fun i hi => (T0 i hi).mp mp
  obtain ⟨R2, b1, b2, b3, b4, b5, b6⟩ := goes_rN (N := N) (n := n) hN hc6 hw.1.2.2.2 hw.2.1.2.1 hw.2.1.2.2 hn (show dN (aV s) < 10000 by omega) (wf_setF hw.1.2.1 wf1) T1 W1
  have m1 : Mt (rAI R 120 g) (sAI (rAI R 120 g) 103 (5 * p + 1) (nI way)) := ⟨fun _ _ _ _ => rfl, fun _ _ => rfl, fun b hb _ _ => AI_nf hb⟩
  obtain ⟨R3, c1, ⟨c2, c3, c4, c5⟩, c6, c7, c8, c9⟩ := lays_r (N := N) hN e2 e3 (m1.tr b3)
  refine ⟨_, R2, R3, e1, b1, ?_, c1, hr.rg hw ⟨c2, fun j => ?_, c4, c5⟩⟩
  · rw [show AI R2 103 (5 * p + 3) = _ from (b2.2.2.2.2 p hp).2.2.2.2.2.1, wN_it, setF_s]
  · by_cases h6 : j = 6
    · subst h6
      rw [c8, b2.1]
      exact hr.1.1.symm
    · exact c3 j h6
theorem turn_loop {N n p : Nat} {s : St} {x3 : Int32} (hN : 160 < N) (hn : n ≤ 100) (hw : wfSt s) (hp : p < dC (aV s)) : ∀ (m fu way : Nat) (x4 x5 : Int32) (M R : Mem), m < fu → way + m = 4 → RcS M s → RrS R s →
    ∃ r M' R', b_X5_turn_45 N (nI p) (nI n) x3 fu x4 x5 (nI way) M = some (r, M') ∧ b_X6_turn_42 N (nI p) (nI n) x3 fu x4 x5 (nI way) R = some (r, R') ∧ RcS M' s ∧ RrS R' s := by
  intro m
  have hc6 : dC (aV s) ≤ 6 := hw.1.1
  have hwf := hw.1.2.1 p hp
  have x51 : (5 : Int32) * nI p + 1 = nI (5 * p + 1) := by rw [show (5 : Int32) * nI p = nI (5 * p) from pk_mul 5 p]; exact nI_add _ 1
  have x53 : (5 : Int32) * nI p + 3 = nI (5 * p + 3) := by rw [show (5 : Int32) * nI p = nI (5 * p) from pk_mul 5 p]; exact nI_add _ 3
  induction m with
  | zero =>
    intro fu way x4 x5 M R hf hv hc hr
    obtain ⟨fu, rfl⟩ : ∃ z, fu = z + 1 := ⟨fu - 1, by omega⟩
    have : way = 4 := by omega
    subst this
    rw [b_X5_turn_45, b_X6_turn_42, if_pos (show (4 : Int32) ≤ nI 4 by decide), if_pos (show (4 : Int32) ≤ nI 4 by decide)]
    by_cases z : x3 = 0
    · rw [if_pos z, if_pos z]
      exact ⟨_, _, _, rfl, rfl, hc, hr⟩
    · rw [if_neg z, if_neg z]
      exact ⟨_, _, _, rfl, rfl, hc, hr⟩
  | succ m ih =>
    intro fu way x4 x5 M R hf hv hc hr
    obtain ⟨fu, rfl⟩ : ∃ z, fu = z + 1 := ⟨fu - 1, by omega⟩
    obtain ⟨M1, a1, a2, a3⟩ := begin_s hw hc hp
    obtain ⟨M2, b1, b2, b3⟩ := walkN_s (N := N) (n := n) (M := sFI M1 4 3 (nI way)) hN hn hw (ghost_fi hw a3 3 (nI way)) (a2.s3 way) (wf_fld (what := 1) (v := way) hwf (by decide) (show way < 4 by omega))
    obtain ⟨R1, R2, R3, c1, c2, c3, c4, c5⟩ := turn_one_r (N := N) (n := n) (way := way) hN hn hw hr hp (by omega)
    rw [b_X5_turn_45, b_X6_turn_42, if_neg (show ¬ (4 : Int32) ≤ nI way from nI_ge (b := 4) (by omega) (by decide)), if_neg (show ¬ (4 : Int32) ≤ nI way from nI_ge (b := 4) (by omega) (by decide)), a1, bd2_s, c1, bind_some_, x51, gdn (n := len 103) (show 5 * p + 1 < 30 by omega) (by decide), nI_clamp (show 5 * p + 1 < 2 ^ 31 by omega)]
    unfold b_X5_turn_66 b_X5_turn_89 b_X5_turn_102 b_X6_turn_64
    rw [b1, bind_some_, show FI M2 4 5 = _ from b2.2.2.2.2.2.1, c2, bind_some_, x53, gdn (n := len 103) (show 5 * p + 3 < 30 by omega) (by decide), nI_clamp (show 5 * p + 3 < 2 ^ 31 by omega), c3]
    unfold b_X6_turn_81
    rw [c4, bind_some_]
    unfold b_X6_turn_98 b_X6_turn_103 b_X6_turn_117 b_X6_turn_131
    rw [if_neg (show ¬ (1 : Int32) = 0 by decide), if_neg (show ¬ (1 : Int32) = 0 by decide), if_pos (show (0 : Int32) = 0 from rfl), if_pos (show (0 : Int32) = 0 from rfl), nI_1]
    show ∃ r M' R', (if x4 = -1 then b_X5_turn_45 N (nI p) (nI n) x3 fu (nI way) (nI (kT (itN (aT s (dL (aV s))) (dW (aV s)) n (dN (aV s)) (fldS (dS (aV s) p) 1 way)).1)) (nI (way + 1)) M2 else if x5 ≤ (nI (kT (itN (aT s (dL (aV s))) (dW (aV s)) n (dN (aV s)) (fldS (dS (aV s) p) 1 way)).1)) then b_X5_turn_45 N (nI p) (nI n) x3 fu x4 x5 (nI (way + 1)) M2 else b_X5_turn_45 N (nI p) (nI n) x3 fu (nI way) (nI (kT (itN (aT s (dL (aV s))) (dW (aV s)) n (dN (aV s)) (fldS (dS (aV s) p) 1 way)).1)) (nI (way + 1)) M2) = some (r, M') ∧ _
    by_cases z1 : x4 = -1
    · rw [if_pos z1, if_pos z1]
      exact ih fu (way + 1) _ _ M2 R3 (by omega) (by omega) b3 c5
    · rw [if_neg z1, if_neg z1]
      by_cases z2 : x5 ≤ (nI (kT (itN (aT s (dL (aV s))) (dW (aV s)) n (dN (aV s)) (fldS (dS (aV s) p) 1 way)).1))
      · rw [if_pos z2, if_pos z2]
        exact ih fu (way + 1) _ _ M2 R3 (by omega) (by omega) b3 c5
      · rw [if_neg z2, if_neg z2]
        exact ih fu (way + 1) _ _ M2 R3 (by omega) (by omega) b3 c5
theorem st_turn {N : Nat} {M R : Mem} (hN : 160 < N) (x1 x2 x3 : Int32) (h : Sim M R) : ∃ r M' R', f_X5_turn N x1 x2 x3 M = some (r, M') ∧ f_X6_turn N x1 x2 x3 R = some (r, R') ∧ Sim M' R' := by
  obtain ⟨s, hw, hc, hr⟩ := h
  have bad : Sim M R := ⟨s, hw, hc, hr⟩
  unfold f_X5_turn b_X5_turn_0 f_X6_turn b_X6_turn_0 b_X5_turn_36
  rcases one_b x1 hw hc hr with ⟨p, hp, rfl, e1, e2⟩ | ⟨e1, e2⟩
  rotate_left
  · rw [e1, bind_some_, oc_none_, e2, bind_some_, if_neg Bool.false_ne_true]
    exact ⟨_, M, R, rfl, rfl, bad⟩
  rw [e1, bind_some_, oc_some_, e2, bind_some_, if_pos rfl, in_r, bind_some_]
  by_cases b1 : x2 < 0
  · rw [if_pos b1, decide_eq_false (fun q => q.1 b1), if_neg Bool.false_ne_true]
    exact ⟨_, M, R, rfl, rfl, bad⟩
  by_cases b2 : (40 : Int32) < x2
  · rw [if_neg b1, if_pos b2, decide_eq_false (fun q => q.2 b2), if_neg Bool.false_ne_true]
    exact ⟨_, M, R, rfl, rfl, bad⟩
  rw [if_neg b1, if_neg b2, decide_eq_true ⟨b1, b2⟩, if_pos rfl]
  rcases bit1_b x3 with ⟨z, hz, rfl, hz2⟩ | ⟨z0, z1, z2⟩
  rotate_left
  · rw [two_no z0 z1, z2, bind_some_, if_neg Bool.false_ne_true]
    exact ⟨_, M, R, rfl, rfl, bad⟩
  rw [two_br hz2, show f_X6_in (nI z) 0 1 R = some true from in_yes (n := 1) (by decide) hz R, bind_some_, if_pos rfl]
  obtain ⟨n, hn0, rfl⟩ := nn_ex b1
  have hn : n ≤ 40 := by
    rw [lk_40, ltI (by decide) hn0] at b2
    omega
  obtain ⟨r, M', R', a1, a2, a3, a4⟩ := turn_loop (N := N) (n := n) (x3 := nI z) hN (by omega) hw hp 4 N 0 (-1) 0 M R (by omega) (by omega) hc hr
  exact ⟨r, M', R', a1, a2, s, hw, a3, a4⟩
/-! anew -/
def farI (a b : Nat) : Int32 := (if 0 ≤ ((nI a - nI a / (8 : Int32) * (8 : Int32)) - (nI b - nI b / (8 : Int32) * (8 : Int32))) then ((nI a - nI a / (8 : Int32) * (8 : Int32)) - (nI b - nI b / (8 : Int32) * (8 : Int32))) else 0 - ((nI a - nI a / (8 : Int32) * (8 : Int32)) - (nI b - nI b / (8 : Int32) * (8 : Int32)))) + (if 0 ≤ ((nI a / (8 : Int32)) - (nI b / (8 : Int32))) then ((nI a / (8 : Int32)) - (nI b / (8 : Int32))) else 0 - ((nI a / (8 : Int32)) - (nI b / (8 : Int32))))
theorem far_c (a b : Nat) (M : Mem) : f_X5_far (nI a) (nI b) M = some (farI a b) := rfl
theorem far_r (a b : Nat) (R : Mem) : f_X6_farOf (nI a) (nI b) R = some (farI a b) := by
  unfold f_X6_farOf b_X6_farOf_0 b_X6_farOf_10 b_X6_farOf_30 b_X6_farOf_40 farI
  generalize ((nI a - nI a / (8 : Int32) * (8 : Int32)) - (nI b - nI b / (8 : Int32) * (8 : Int32))) = d
  generalize ((nI a / (8 : Int32)) - (nI b / (8 : Int32))) = e
  rw [Int32.zero_sub, Int32.zero_sub]
  by_cases h1 : 0 ≤ d
  · rw [if_pos h1, if_pos h1]
    by_cases h2 : 0 ≤ e
    · rw [if_pos h2, if_pos h2]
    · rw [if_neg h2, if_neg h2]
  · rw [if_neg h1, if_neg h1]
    by_cases h2 : 0 ≤ e
    · rw [if_pos h2, if_pos h2]
    · rw [if_neg h2, if_neg h2]
/-- how far one comes to be from c in n nights -/
def farV (s : St) (c n : Nat) (σ : Sl) : Int32 := farI (kC (itN (aT s (dL (aV s))) (dW (aV s)) n (dN (aV s)) σ).1) c
theorem farB_r {N n p c : Nat} {R : Mem} {s : St} (hN : 160 < N) (hn : n ≤ 100) (hw : wfSt s) (hr : RrS R s) (hp : p < dC (aV s)) : ∃ R', f_X6_farBehind N (nI p) (nI c) (nI n) R = some (farV s c n (dS (aV s) p), R') ∧ RrS R' s := by
  have hc6 : dC (aV s) ≤ 6 := hw.1.1
  obtain ⟨R1, R2, c1, c2, c3, c4, c5, c6, c7⟩ := think_r (N := N) (n := n) hN hn hw hr
  obtain ⟨R4, d1, d2, d3, d4⟩ := c7 R2 (Mt.rf _) rfl
  unfold f_X6_farBehind b_X6_farBehind_0
  rw [c1, bind_some_, c2, bind_some_, show (5 : Int32) * nI p = nI (5 * p) from pk_mul 5 p, gdn (n := len 103) (show 5 * p < 30 by omega) (by decide), nI_clamp (show 5 * p < 2 ^ 31 by omega), show AI R2 103 (5 * p) = _ from (c3.2.2.2.2 p hp).2.2.1, far_r, bind_some_, d1, bind_some_, wN_it]
  exact ⟨R4, rfl, hr.rg hw d2⟩
theorem ghost_so {M : Mem} {s : St} (hw : wfSt s) (hc : RcS M s) (k : Nat) (v : Int32) : RcS (sAI M (4 + 19) k v) s := hc.mg hw (fun b hb => ⟨fun _ => rfl, fun _ => rfl, AI_nf (fun q => hb (by rw [q]; unfold gC; omega))⟩)
/-- the class: no stitch is another one -/
theorem farB_c0 {N n p c : Nat} {M : Mem} {s : St} (hN : 160 < N) (hn : n ≤ 100) (hw : wfSt s) (hc : RcS M s) (hp : p < dC (aV s)) : ∃ M', f_X5_farBehind N (nI p) (-1) 0 (nI c) (nI n) M = some (farV s c n (dS (aV s) p), M') ∧ RcS M' s := by
  obtain ⟨M1, a1, a2, a3⟩ := begin_s hw hc hp
  obtain ⟨M2, b1, b2, b3⟩ := walkN_s (N := N) (n := n) hN hn hw a3 a2 (hw.1.2.1 p hp)
  unfold f_X5_farBehind b_X5_farBehind_0 f_X2_mend b_X2_mend_0
  rw [a1, bd2_s, if_pos (show (-1 : Int32) < 0 by decide), bind_some_, b1, bind_some_, show FI M2 4 2 = _ from b2.2.2.1, far_c, bind_some_]
  exact ⟨M2, rfl, b3⟩
theorem farB_c {N n p c k v : Nat} {M : Mem} {s : St} (hN : 160 < N) (hn : n ≤ 100) (hw : wfSt s) (hc : RcS M s) (hp : p < dC (aV s)) (hk : k < (kS (dS (aV s) p)).length) (hv : v < 5) : ∃ M', f_X5_farBehind N (nI p) (nI k) (nI v) (nI c) (nI n) M = some (farV s c n (sockS (dS (aV s) p) ((kS (dS (aV s) p)).set k v)), M') ∧ RcS M' s := by
  have hwf := hw.1.2.1 p hp
  have h16 := hwf.2.2.2.2.2.2.2.1
  obtain ⟨M1, a1, a2, a3⟩ := begin_s hw hc hp
  obtain ⟨M2, b1, b2, b3⟩ := walkN_s (N := N) (n := n) (M := sAI M1 (4 + 19) k (nI v)) hN hn hw (ghost_so hw a3 k (nI v)) (a2.sock hk) (wf_sock hwf hk hv)
  unfold f_X5_farBehind b_X5_farBehind_0
  rw [a1, bd2_s, mend_c (a := 4) rfl (by omega), bind_some_, b1, bind_some_, show FI M2 4 2 = _ from b2.2.2.1, far_c, bind_some_]
  exact ⟨M2, rfl, b3⟩
theorem set_self {l : List Nat} {k : Nat} (hk : k < l.length) : l.set k (l.getD k 0) = l := by
  refine List.ext_getElem? (fun j => ?_)
  rw [List.getElem?_set]
  by_cases e : k = j
  · subst e
    rw [if_pos rfl, if_pos hk, List.getD_eq_getElem?_getD, List.getElem?_eq_getElem hk]
    rfl
  · rw [if_neg e]
theorem sock_self {σ : Sl} {k : Nat} (hk : k < (kS σ).length) : sockS σ ((kS σ).set k ((kS σ).getD k 0)) = σ := by
  rw [set_self hk]
  rfl
theorem sock_set {p k u v : Nat} {R : Mem} {s : St} (hw : wfSt s) (hk : k < (kS (dS (aV s) p)).length) (hp : p < dC (aV s)) (hu : u < 5) (hr : RrS R (setS s p (sockS (dS (aV s) p) ((kS (dS (aV s) p)).set k u)))) : RrS (sAI R 104 (16 * p + k) (nI v)) (setS s p (sockS (dS (aV s) p) ((kS (dS (aV s) p)).set k v))) := by
  have hwf := hw.1.2.1 p hp
  have h16 := hwf.2.2.2.2.2.2.2.1
  have w2 : wfSt (setS s p (sockS (dS (aV s) p) ((kS (dS (aV s) p)).set k u))) := wf_set hw (wf_sock hwf hk hu) rfl rfl
  have rr : RR R p (sockS (dS (aV s) p) ((kS (dS (aV s) p)).set k u)) := by
    have h := hr.1.2.2.2.2 p hp
    rw [show dS (aV (setS s p (sockS (dS (aV s) p) ((kS (dS (aV s) p)).set k u)))) p = _ from setF_s _ _ _] at h
    exact h
  have hk2 : k < (kS (sockS (dS (aV s) p) ((kS (dS (aV s) p)).set k u))).length := by
    show k < ((kS (dS (aV s) p)).set k u).length
    rw [List.length_set]; exact hk
  have h2 := hr.set w2 (Mp.sock R (p := p) (k := 16 * p + k) (nI v) (by omega) (by omega)) (rr.sock (v := v) hk2)
  rw [setS_setS] at h2
  have e : sockS (sockS (dS (aV s) p) ((kS (dS (aV s) p)).set k u)) ((kS (sockS (dS (aV s) p) ((kS (dS (aV s) p)).set k u))).set k v) = sockS (dS (aV s) p) ((kS (dS (aV s) p)).set k v) := by
    show sockS (dS (aV s) p) (((kS (dS (aV s) p)).set k u).set k v) = _
    rw [List.set_set]
  rw [e] at h2
  exact h2
theorem anew_in {N n p c k : Nat} {s : St} {x4 : Int32} {kc : Nat → Int32 → Int32 → Int32 → Mem → Option (Int32 × Mem)} {kr : Int32 → Int32 → Int32 → Mem → Option (Int32 × Mem)} (hN : 160 < N) (hn : n ≤ 100) (hw : wfSt s) (hp : p < dC (aV s)) (hk : k < (kS (dS (aV s) p)).length)
    (hK : ∀ (x6 x7 : Int32) (M R : Mem), RcS M s → RrS R s → ∃ r M' R', kc (slx 1 p) x6 x7 (nI (k + 1)) M = some (r, M') ∧ kr x7 x6 (nI (k + 1)) R = some (r, R') ∧ RcS M' s ∧ RrS R' s) : ∀ (m fu v u : Nat) (x6 x7 : Int32) (M R : Mem), m < fu → v + m = 5 → u < 5 → RcS M s → RrS R (setS s p (sockS (dS (aV s) p) ((kS (dS (aV s) p)).set k u))) →
    ∃ r M' R', b_X5_anew_79 N (nI p) (nI c) (nI n) x4 kc fu (slx 1 p) x6 x7 (nI k) (nI v) M = some (r, M') ∧ b_X6_anew_84 N (nI p) (nI c) (nI n) x4 kr fu x7 x6 (nI k) (nI ((kS (dS (aV s) p)).getD k 0)) (nI v) R = some (r, R') ∧ RcS M' s ∧ RrS R' s := by
  intro m
  have hc6 : dC (aV s) ≤ 6 := hw.1.1
  have hwf := hw.1.2.1 p hp
  have h16 := hwf.2.2.2.2.2.2.2.1
  have x16 : (16 : Int32) * nI p + nI k = nI (16 * p + k) := by rw [show (16 : Int32) * nI p = nI (16 * p) from pk_mul 16 p, nI_add]
  have i16 : inb (nI (16 * p + k)) (len 104) = true := inb_nI (n := 96) (by omega) (by decide)
  have k16 : (nI (16 * p + k)).toNatClampNeg = 16 * p + k := nI_clamp (by omega)
  induction m with
  | zero =>
    intro fu v u x6 x7 M R hf hv hu hc hr
    obtain ⟨fu, rfl⟩ : ∃ z, fu = z + 1 := ⟨fu - 1, by omega⟩
    have : v = 5 := by omega
    subst this
    rw [b_X5_anew_79, b_X6_anew_84, if_pos (show (5 : Int32) ≤ nI 5 by decide), if_pos (show (5 : Int32) ≤ nI 5 by decide), x16, gd_t i16, k16]
    unfold b_X6_anew_171
    rw [nI_1]
    have h := sock_set (v := (kS (dS (aV s) p)).getD k 0) hw hk hp hu hr
    rw [sock_self hk, setS_self] at h
    exact hK x6 x7 M _ hc h
  | succ m ih =>
    intro fu v u x6 x7 M R hf hv hu hc hr
    obtain ⟨fu, rfl⟩ : ∃ z, fu = z + 1 := ⟨fu - 1, by omega⟩
    obtain ⟨M1, a1, a2⟩ := farB_c (N := N) (n := n) (c := c) (k := k) (v := v) hN hn hw hc hp hk (by omega)
    have h := sock_set (v := v) hw hk hp hu hr
    have w2 : wfSt (setS s p (sockS (dS (aV s) p) ((kS (dS (aV s) p)).set k v))) := wf_set hw (wf_sock hwf hk (by omega)) rfl rfl
    obtain ⟨R1, b1, b2⟩ := farB_r (N := N) (n := n) (c := c) hN hn w2 h hp
    rw [show dS (aV (setS s p (sockS (dS (aV s) p) ((kS (dS (aV s) p)).set k v)))) p = _ from setF_s _ _ _] at b1
    have b1' : f_X6_farBehind N (nI p) (nI c) (nI n) (sAI R 104 (16 * p + k) (nI v)) = some (farV s c n (sockS (dS (aV s) p) ((kS (dS (aV s) p)).set k v)), R1) := b1
    rw [b_X5_anew_79, b_X6_anew_84, if_neg (show ¬ (5 : Int32) ≤ nI v from nI_ge (b := 5) (by omega) (by decide)), if_neg (show ¬ (5 : Int32) ≤ nI v from nI_ge (b := 5) (by omega) (by decide)), x16, gd_t i16, k16, a1, bd2_s]
    unfold b_X6_anew_104
    rw [b1', bd2_s]
    unfold b_X5_anew_119 b_X6_anew_133 b_X6_anew_149
    rw [nI_1]
    by_cases z : x6 ≤ farV s c n (sockS (dS (aV s) p) ((kS (dS (aV s) p)).set k v))
    · rw [if_pos z, if_pos z, if_pos z]
      exact ih fu (v + 1) v _ _ M1 R1 (by omega) (by omega) (by omega) a2 b2
    · rw [if_neg z, if_neg z, if_neg z]
      exact ih fu (v + 1) v _ _ M1 R1 (by omega) (by omega) (by omega) a2 b2
theorem anew_out {N n p c : Nat} {s : St} {x4 : Int32} (hN : 160 < N) (hn : n ≤ 100) (hw : wfSt s) (hp : p < dC (aV s)) : ∀ (m fu k : Nat) (x6 x7 : Int32) (M R : Mem), m < fu → k + m = (kS (dS (aV s) p)).length → RcS M s → RrS R s →
    ∃ r M' R', b_X5_anew_66 N (nI p) (nI c) (nI n) x4 fu (slx 1 p) x6 x7 (nI k) M = some (r, M') ∧ b_X6_anew_56 N (nI p) (nI c) (nI n) x4 fu x7 x6 (nI k) R = some (r, R') ∧ RcS M' s ∧ RrS R' s := by
  intro m
  have hc6 : dC (aV s) ≤ 6 := hw.1.1
  have hwf := hw.1.2.1 p hp
  have h16 := hwf.2.2.2.2.2.2.2.1
  have ki := slx_kd (wi := 1) (q := p) (by decide) (by decide) (by omega)
  have i5 : inb (nI p) (len 105) = true := inb_nI (n := 6) (by omega) (by decide)
  have kp : (nI p).toNatClampNeg = p := nI_clamp (by omega)
  induction m with
  | zero =>
    intro fu k x6 x7 M R hf hk hc hr
    obtain ⟨fu, rfl⟩ : ∃ z, fu = z + 1 := ⟨fu - 1, by omega⟩
    rw [b_X5_anew_66, b_X6_anew_56, gd_t (isK_t ki), gd_t i5, kp, show FI M (slx 1 p) 7 = _ from (hc.1.2.2.2.2 p hp).2.2.2.2.2.2.2.1, show AI R 105 p = _ from (hr.1.2.2.2.2 p hp).2.2.2.2.2.2.2.1, if_pos (nI_le (by omega) (by omega)), if_pos (nI_le (by omega) (by omega))]
    by_cases z : x4 = 0
    · rw [if_pos z, if_pos z]
      exact ⟨_, _, _, rfl, rfl, hc, hr⟩
    · rw [if_neg z, if_neg z]
      exact ⟨_, _, _, rfl, rfl, hc, hr⟩
  | succ m ih =>
    intro fu k x6 x7 M R hf hk hc hr
    obtain ⟨fu, rfl⟩ : ∃ z, fu = z + 1 := ⟨fu - 1, by omega⟩
    have hkl : k < (kS (dS (aV s) p)).length := by omega
    rw [b_X5_anew_66, b_X6_anew_56, gd_t (isK_t ki), gd_t i5, kp, show FI M (slx 1 p) 7 = _ from (hc.1.2.2.2.2 p hp).2.2.2.2.2.2.2.1, show AI R 105 p = _ from (hr.1.2.2.2.2 p hp).2.2.2.2.2.2.2.1, if_neg (nI_ge (by omega) (by omega)), if_neg (nI_ge (by omega) (by omega)), show (16 : Int32) * nI p + nI k = nI (16 * p + k) by rw [show (16 : Int32) * nI p = nI (16 * p) from pk_mul 16 p, nI_add], gdn (n := len 104) (show 16 * p + k < 96 by omega) (by decide), nI_clamp (show 16 * p + k < 2 ^ 31 by omega), (hr.1.2.2.2.2 p hp).2.2.2.2.2.2.2.2 k hkl]
    unfold b_X6_anew_81
    exact anew_in (N := N) (n := n) (c := c) (kc := b_X5_anew_66 N (nI p) (nI c) (nI n) x4 fu) (kr := b_X6_anew_56 N (nI p) (nI c) (nI n) x4 fu) hN hn hw hp hkl (fun x6 x7 M R hc hr => ih fu (k + 1) x6 x7 M R (by omega) (by omega) hc hr) 5 N 0 ((kS (dS (aV s) p)).getD k 0) x6 x7 M R (by omega) (by omega) (hwf.2.2.2.2.2.2.2.2 k hkl) hc (by rw [sock_self hkl, setS_self]; exact hr)
theorem st_anew {N : Nat} {M R : Mem} (hN : 160 < N) (x1 x2 x3 x4 : Int32) (h : Sim M R) : ∃ r M' R', f_X5_anew N x1 x2 x3 x4 M = some (r, M') ∧ f_X6_anew N x1 x2 x3 x4 R = some (r, R') ∧ Sim M' R' := by
  obtain ⟨s, hw, hc, hr⟩ := h
  have hc6 : dC (aV s) ≤ 6 := hw.1.1
  have bad : Sim M R := ⟨s, hw, hc, hr⟩
  unfold f_X5_anew b_X5_anew_0 f_X6_anew b_X6_anew_0 b_X5_anew_49
  rcases one_b x1 hw hc hr with ⟨p, hp, rfl, e1, e2⟩ | ⟨e1, e2⟩
  rotate_left
  · rw [e1, bind_some_, oc_none_, e2, bind_some_, if_neg Bool.false_ne_true]
    exact ⟨_, M, R, rfl, rfl, bad⟩
  rw [e1, bind_some_, oc_some_, e2, bind_some_, if_pos rfl]
  rcases cell_b x2 M R with ⟨c, hc64, rfl, f1, f2⟩ | ⟨f1, f2⟩
  rotate_left
  · rw [f1, f2, bind_some_, bind_some_, if_neg Bool.false_ne_true, if_neg Bool.false_ne_true]
    exact ⟨_, M, R, rfl, rfl, bad⟩
  rw [f1, f2, bind_some_, bind_some_, if_pos rfl, if_pos rfl, in_r, bind_some_]
  by_cases b1 : x3 < 0
  · rw [if_pos b1, decide_eq_false (fun q => q.1 b1), if_neg Bool.false_ne_true]
    exact ⟨_, M, R, rfl, rfl, bad⟩
  by_cases b2 : (20 : Int32) < x3
  · rw [if_neg b1, if_pos b2, decide_eq_false (fun q => q.2 b2), if_neg Bool.false_ne_true]
    exact ⟨_, M, R, rfl, rfl, bad⟩
  rw [if_neg b1, if_neg b2, decide_eq_true ⟨b1, b2⟩, if_pos rfl]
  rcases bit1_b x4 with ⟨z, hz, rfl, hz2⟩ | ⟨z0, z1, z2⟩
  rotate_left
  · rw [two_no z0 z1, z2, bind_some_, if_neg Bool.false_ne_true]
    exact ⟨_, M, R, rfl, rfl, bad⟩
  rw [two_br hz2, show f_X6_in (nI z) 0 1 R = some true from in_yes (n := 1) (by decide) hz R, bind_some_, if_pos rfl]
  obtain ⟨n, hn0, rfl⟩ := nn_ex b1
  have hn : n ≤ 20 := by
    rw [lk_20, ltI (by decide) hn0] at b2
    omega
  have h16 := (hw.1.2.1 p hp).2.2.2.2.2.2.2.1
  obtain ⟨M1, a1, a2⟩ := farB_c0 (N := N) (n := n) (c := c) hN (by omega) hw hc hp
  obtain ⟨R1, d1, d2⟩ := farB_r (N := N) (n := n) (c := c) hN (by omega) hw hr hp
  rw [a1, bd2_s, d1, bd2_s]
  obtain ⟨r, M', R', g1, g2, g3, g4⟩ := anew_out (N := N) (n := n) (c := c) (x4 := nI z) hN (by omega) hw hp (kS (dS (aV s) p)).length N 0 (farV s c n (dS (aV s) p)) (-1) M1 R1 (by omega) (by omega) a2 d2
  exact ⟨r, M', R', g1, g2, s, hw, g3, g4⟩
