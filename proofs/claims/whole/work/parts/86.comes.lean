/-! L2: comes, meet, alike -/
def cmN (x : Txt) (w : Int64) (c : Nat) : Nat → Nat → Nat → Sl → Option Nat
  | 0, _, _, _ => none
  | m + 1, j, night, σ => if kC σ = c then some j else cmN x w c m (j + 1) (night + 1) (walkS x night w σ).2.1
theorem comes_c {N c : Nat} {s : St} {x1 : Int32} (hN : 160 < N) (hw : wfSt s) (hcc : c < 64) : ∀ (m fu j : Nat) (M : Mem) (σ : Sl), m < fu → j + m = 61 → RcS M s → RS M 4 σ → wfS σ →
    ∃ M', b_X5_comes_23 N x1 (nI c) fu (nI j) M = some (resI (cmN (aT s (dL (aV s))) (dW (aV s)) c m j (dN (aV s) + j) σ), M') ∧ RcS M' s := by
  intro m
  induction m with
  | zero =>
    intro fu j M σ hf hj hc hS hσ
    obtain ⟨fu, rfl⟩ : ∃ z, fu = z + 1 := ⟨fu - 1, by omega⟩
    rw [b_X5_comes_23, if_pos (show (60 : Int32) < nI j from nI_lt (a := 60) (by omega) (by omega))]
    exact ⟨M, rfl, hc⟩
  | succ m ih =>
    intro fu j M σ hf hj hc hS hσ
    obtain ⟨fu, rfl⟩ : ∃ z, fu = z + 1 := ⟨fu - 1, by omega⟩
    have h64 := hσ.2.2.1
    rw [b_X5_comes_23, if_neg (show ¬ (60 : Int32) < nI j from nI_nlt (a := 60) (by omega) (by decide)), show FI M 4 2 = _ from hS.2.2.1]
    rw [show cmN (aT s (dL (aV s))) (dW (aV s)) c (m + 1) j (dN (aV s) + j) σ = (if kC σ = c then some j else cmN (aT s (dL (aV s))) (dW (aV s)) c m (j + 1) (dN (aV s) + j + 1) (walkS (aT s (dL (aV s))) (dN (aV s) + j) (dW (aV s)) σ).2.1) from rfl]
    by_cases e : kC σ = c
    · rw [if_pos e, if_pos ((nI_eq (by omega) (by omega)).mpr e)]
      exact ⟨M, rfl, hc⟩
    · obtain ⟨M1, e1, s1, h1⟩ := walk_s (N := N) (k := j) hN hw hc hS hσ hw.1.2.2.2 (by omega)
      rw [if_neg e, if_neg (fun z => e ((nI_eq (by omega) (by omega)).mp z)), law_s hw hc, bind_some_, gd_t (isK_t (kdt hw hw.1.2.2.2)), e1, bd2_s, nI_1]
      exact ih fu (j + 1) M1 _ (by omega) (by omega) h1 s1 (wf_walk hσ)
theorem comes_r {N c p cnt law tx : Nat} {w : Int64} {tf : Nat → Txt} (hN : 160 < N) (hc : cnt ≤ 6) (hp : p < cnt) (hcc : c < 64) (hl : law < tx) (htx : tx ≤ 6) (hxf : ∀ i, i < tx → wfT (tf i)) : ∀ (m fu j night : Nat) (R : Mem) (σf : Nat → Sl), m + 1 < fu → j + m = 61 → night + m < 100000 → (∀ q, q < cnt → wfS (σf q)) → TR R tx tf → WR R cnt σf w night law →
    ∃ R', b_X6_comes_30 N (nI p) (nI c) fu (-1) (nI j) R = b_X6_comes_71 N (nI p) (nI c) (resI (cmN (tf law) w c m j night (σf p))) R' ∧ Mt R R' ∧ FJ R' 100 6 = FJ R 100 6 := by
  intro m
  induction m with
  | zero =>
    intro fu j night R σf hf hj hn hwf hT hW
    obtain ⟨fu, rfl⟩ : ∃ z, fu = z + 1 := ⟨fu - 1, by omega⟩
    rw [b_X6_comes_30, if_pos (show (60 : Int32) < nI j from nI_lt (a := 60) (by omega) (by omega))]
    exact ⟨R, rfl, Mt.rf R, rfl⟩
  | succ m ih =>
    intro fu j night R σf hf hj hn hwf hT hW
    obtain ⟨fu, rfl⟩ : ∃ z, fu = z + 1 := ⟨fu - 1, by omega⟩
    obtain ⟨R1, e1, W1, m1, f1, -⟩ := night_w (N := N) hN hc hl htx hxf (by omega) hwf hT hW
    have mt := Mt.mn m1
    have h64 := (hwf p hp).2.2.1
    rw [b_X6_comes_30, if_neg (show ¬ (60 : Int32) < nI j from nI_nlt (a := 60) (by omega) (by decide)), if_pos rfl, show (5 : Int32) * nI p = nI (5 * p) from pk_mul 5 p, gdn (n := len 103) (show 5 * p < 30 by omega) (by decide), nI_clamp (show 5 * p < 2 ^ 31 by omega), show AI R 103 (5 * p) = _ from (hW.2.2.2.2 p hp).2.2.1]
    unfold b_X6_comes_60
    rw [e1, bind_some_, bind_some_, nI_1]
    rw [show cmN (tf law) w c (m + 1) j night (σf p) = (if kC (σf p) = c then some j else cmN (tf law) w c m (j + 1) (night + 1) (walkS (tf law) night w (σf p)).2.1) from rfl]
    by_cases e : kC (σf p) = c
    · rw [if_pos e, if_pos ((nI_eq (by omega) (by omega)).mpr e)]
      obtain ⟨fu, rfl⟩ : ∃ z, fu = z + 1 := ⟨fu - 1, by omega⟩
      rw [b_X6_comes_30, if_neg (nI_m1 j (by omega)), ite_self]
      exact ⟨R1, rfl, mt, m1.2.1 6⟩
    · rw [if_neg e, if_neg (fun z => e ((nI_eq (by omega) (by omega)).mp z))]
      obtain ⟨R', b1, b2, b3⟩ := ih fu (j + 1) (night + 1) R1 (fun q => (walkS (tf law) night w (σf q)).2.1) (by omega) (by omega) (by omega) (fun q hq => wf_walk (hwf q hq)) (hT.mt mt) W1
      exact ⟨R', b1, mt.tr b2, b3.trans (m1.2.1 6)⟩
theorem st_comes {N : Nat} {M R : Mem} (hN : 160 < N) (x1 x2 : Int32) (h : Sim M R) : ∃ r M' R', f_X5_comes N x1 x2 M = some (r, M') ∧ f_X6_comes N x1 x2 R = some (r, R') ∧ Sim M' R' := by
  obtain ⟨s, hw, hc, hr⟩ := h
  have hc6 : dC (aV s) ≤ 6 := hw.1.1
  have hn9 : dN (aV s) ≤ 999 := hw.1.2.2.1
  have bad : Sim M R := ⟨s, hw, hc, hr⟩
  unfold f_X5_comes b_X5_comes_0 f_X6_comes b_X6_comes_0
  rcases one_b x1 hw hc hr with ⟨p, hp, rfl, e1, e2⟩ | ⟨e1, e2⟩
  · obtain ⟨M1, a1, a2, a3⟩ := begin_s hw hc hp
    rw [a1, bd2_s, if_pos rfl, e2, bind_some_, if_pos rfl]
    rcases cell_b x2 M1 R with ⟨c, hc64, rfl, f1, f2⟩ | ⟨f1, f2⟩
    · rw [f1, f2, bind_some_, bind_some_, if_pos rfl, if_pos rfl]
      obtain ⟨M2, b1, b2⟩ := comes_c (N := N) (x1 := nI p) hN hw hc64 61 N 0 M1 _ (by omega) (by omega) a3 a2 (hw.1.2.1 p hp)
      obtain ⟨g, k1, k2, k3⟩ := keeps_r (N := N) (R := R) hN
      obtain ⟨R2, d1, d2, d3⟩ := comes_r (N := N) (w := dW (aV s)) hN hc6 hp hc64 hw.1.2.2.2 hw.2.1.2.1 hw.2.1.2.2 61 N 0 (dN (aV s)) (rAI R 120 g) (dS (aV s)) (by omega) (by omega) (by omega) hw.1.2.1 hr.2.2.1 hr.1
      obtain ⟨R3, g1, ⟨g2, g3, g4, g5⟩, g6, g7, g8, g9⟩ := lays_r (N := N) hN k2 k3 d2
      rw [show b_X5_comes_23 N (nI p) (nI c) N (0 : Int32) M1 = _ from b1, k1, bind_some_, show b_X6_comes_30 N (nI p) (nI c) N (-1 : Int32) (0 : Int32) (rAI R 120 g) = _ from d1]
      unfold b_X6_comes_71
      rw [g1, bind_some_]
      refine ⟨_, M2, R3, rfl, rfl, s, hw, b2, hr.rg hw ⟨g2, fun j => ?_, g4, g5⟩⟩
      by_cases h6 : j = 6
      · subst h6
        rw [g8, d3]; rfl
      · exact g3 j h6
    · rw [f1, f2, bind_some_, bind_some_, if_neg Bool.false_ne_true, if_neg Bool.false_ne_true]
      exact ⟨_, M1, R, rfl, rfl, s, hw, a3, hr⟩
  · rw [begin_no e1, bd2_s, if_neg Bool.false_ne_true, e2, bind_some_, if_neg Bool.false_ne_true]
    exact ⟨_, M, R, rfl, rfl, bad⟩
def mtN (x : Txt) (w : Int64) (p q : Nat) : Nat → Nat → Nat → (Nat → Sl) → Option Nat
  | 0, _, _, _ => none
  | m + 1, j, night, σf => if kC (σf p) = kC (σf q) then some j else mtN x w p q m (j + 1) (night + 1) (fun i => (walkS x night w (σf i)).2.1)
theorem meet_c {N p q : Nat} {s : St} {x1 x2 : Int32} (hN : 160 < N) (hw : wfSt s) (hp : p < dC (aV s)) (hq : q < dC (aV s)) : ∀ (m fu j : Nat) (M : Mem) (σf : Nat → Sl), m < fu → j + m = 61 → RcS M s → WC M 2 (dC (aV s)) σf (dW (aV s)) (dN (aV s) + j) (dL (aV s)) → (∀ q, q < dC (aV s) → wfS (σf q)) →
    ∃ M', b_X5_meet_75 N x1 x2 fu (slx 2 p) (slx 2 q) (nI j) M = some (resI (mtN (aT s (dL (aV s))) (dW (aV s)) p q m j (dN (aV s) + j) σf), M') ∧ RcS M' s := by
  intro m
  have hc6 : dC (aV s) ≤ 6 := hw.1.1
  have hn9 : dN (aV s) ≤ 999 := hw.1.2.2.1
  have ht := hw.1.2.2.2
  have ki := slx_kd (wi := 2) (q := p) (by decide) (by decide) (by omega)
  have kj := slx_kd (wi := 2) (q := q) (by decide) (by decide) (by omega)
  induction m with
  | zero =>
    intro fu j M σf hf hj hc hW hwf
    obtain ⟨fu, rfl⟩ : ∃ z, fu = z + 1 := ⟨fu - 1, by omega⟩
    rw [b_X5_meet_75, if_pos (show (60 : Int32) < nI j from nI_lt (a := 60) (by omega) (by omega))]
    exact ⟨M, rfl, hc⟩
  | succ m ih =>
    intro fu j M σf hf hj hc hW hwf
    obtain ⟨fu, rfl⟩ : ∃ z, fu = z + 1 := ⟨fu - 1, by omega⟩
    have hp4 := (hwf p hp).2.2.1
    have hq4 := (hwf q hq).2.2.1
    rw [b_X5_meet_75, if_neg (show ¬ (60 : Int32) < nI j from nI_nlt (a := 60) (by omega) (by decide)), gd_t (isK_t ki), gd_t (isK_t kj), show FI M (slx 2 p) 2 = _ from (hW.2.2.2.2 p hp).2.2.1, show FI M (slx 2 q) 2 = _ from (hW.2.2.2.2 q hq).2.2.1]
    rw [show mtN (aT s (dL (aV s))) (dW (aV s)) p q (m + 1) j (dN (aV s) + j) σf = (if kC (σf p) = kC (σf q) then some j else mtN (aT s (dL (aV s))) (dW (aV s)) p q m (j + 1) (dN (aV s) + j + 1) (fun i => (walkS (aT s (dL (aV s))) (dN (aV s) + j) (dW (aV s)) (σf i)).2.1)) from rfl]
    by_cases e : kC (σf p) = kC (σf q)
    · rw [if_pos e, if_pos ((nI_eq (by omega) (by omega)).mpr e)]
      exact ⟨M, rfl, hc⟩
    · obtain ⟨M1, e1, W1, m1⟩ := pass_c (N := N) (t := 46 + dL (aV s)) hN (by decide : 1 ≤ 2) (by decide) hc6 (kdt hw ht) (hw.2.1.2.2 _ ht) (by omega) hwf hW (hc.2.2.1 _ ht)
      rw [if_neg e, if_neg (fun z => e ((nI_eq (by omega) (by omega)).mp z)), law_s hw hc, bind_some_, gd_t (isK_t (kdt hw ht)), e1, bd2_s, nI_1]
      exact ih fu (j + 1) M1 _ (by omega) (by omega) (hc.mg hw (m1.wk (fun a ha => ha.elim (fun z => by unfold inW at z; unfold gC; omega) (fun z => by unfold gC; omega)))) W1 (fun q hq => wf_walk (hwf q hq))
theorem meet_r {N p q cnt law tx : Nat} {w : Int64} {tf : Nat → Txt} (hN : 160 < N) (hc : cnt ≤ 6) (hp : p < cnt) (hq : q < cnt) (hl : law < tx) (htx : tx ≤ 6) (hxf : ∀ i, i < tx → wfT (tf i)) : ∀ (m fu j night : Nat) (R : Mem) (σf : Nat → Sl), m + 1 < fu → j + m = 61 → night + m < 100000 → (∀ q, q < cnt → wfS (σf q)) → TR R tx tf → WR R cnt σf w night law →
    ∃ R', b_X6_meet_33 N (nI p) (nI q) fu (-1) (nI j) R = b_X6_meet_81 N (nI p) (nI q) (resI (mtN (tf law) w p q m j night σf)) R' ∧ Mt R R' ∧ FJ R' 100 6 = FJ R 100 6 := by
  intro m
  induction m with
  | zero =>
    intro fu j night R σf hf hj hn hwf hT hW
    obtain ⟨fu, rfl⟩ : ∃ z, fu = z + 1 := ⟨fu - 1, by omega⟩
    rw [b_X6_meet_33, if_pos (show (60 : Int32) < nI j from nI_lt (a := 60) (by omega) (by omega))]
    exact ⟨R, rfl, Mt.rf R, rfl⟩
  | succ m ih =>
    intro fu j night R σf hf hj hn hwf hT hW
    obtain ⟨fu, rfl⟩ : ∃ z, fu = z + 1 := ⟨fu - 1, by omega⟩
    obtain ⟨R1, e1, W1, m1, f1, -⟩ := night_w (N := N) hN hc hl htx hxf (by omega) hwf hT hW
    have mt := Mt.mn m1
    have hp4 := (hwf p hp).2.2.1
    have hq4 := (hwf q hq).2.2.1
    rw [b_X6_meet_33, if_neg (show ¬ (60 : Int32) < nI j from nI_nlt (a := 60) (by omega) (by decide)), if_pos rfl, show (5 : Int32) * nI p = nI (5 * p) from pk_mul 5 p, show (5 : Int32) * nI q = nI (5 * q) from pk_mul 5 q, gdn (n := len 103) (show 5 * p < 30 by omega) (by decide), gdn (n := len 103) (show 5 * q < 30 by omega) (by decide), nI_clamp (show 5 * p < 2 ^ 31 by omega), nI_clamp (show 5 * q < 2 ^ 31 by omega), show AI R 103 (5 * p) = _ from (hW.2.2.2.2 p hp).2.2.1, show AI R 103 (5 * q) = _ from (hW.2.2.2.2 q hq).2.2.1]
    unfold b_X6_meet_70
    rw [e1, bind_some_, bind_some_, nI_1]
    rw [show mtN (tf law) w p q (m + 1) j night σf = (if kC (σf p) = kC (σf q) then some j else mtN (tf law) w p q m (j + 1) (night + 1) (fun i => (walkS (tf law) night w (σf i)).2.1)) from rfl]
    by_cases e : kC (σf p) = kC (σf q)
    · rw [if_pos e, if_pos ((nI_eq (by omega) (by omega)).mpr e)]
      obtain ⟨fu, rfl⟩ : ∃ z, fu = z + 1 := ⟨fu - 1, by omega⟩
      rw [b_X6_meet_33, if_neg (nI_m1 j (by omega)), ite_self]
      exact ⟨R1, rfl, mt, m1.2.1 6⟩
    · rw [if_neg e, if_neg (fun z => e ((nI_eq (by omega) (by omega)).mp z))]
      obtain ⟨R', b1, b2, b3⟩ := ih fu (j + 1) (night + 1) R1 (fun q => (walkS (tf law) night w (σf q)).2.1) (by omega) (by omega) (by omega) (fun q hq => wf_walk (hwf q hq)) (hT.mt mt) W1
      exact ⟨R', b1, mt.tr b2, b3.trans (m1.2.1 6)⟩
theorem st_meet {N : Nat} {M R : Mem} (hN : 160 < N) (x1 x2 : Int32) (h : Sim M R) : ∃ r M' R', f_X5_meet N x1 x2 M = some (r, M') ∧ f_X6_meet N x1 x2 R = some (r, R') ∧ Sim M' R' := by
  obtain ⟨s, hw, hc, hr⟩ := h
  have hc6 : dC (aV s) ≤ 6 := hw.1.1
  have hn9 : dN (aV s) ≤ 999 := hw.1.2.2.1
  have bad : Sim M R := ⟨s, hw, hc, hr⟩
  unfold f_X5_meet b_X5_meet_0 f_X6_meet b_X6_meet_0
  rcases one_b x1 hw hc hr with ⟨p, hp, rfl, e1, e2⟩ | ⟨e1, e2⟩
  rotate_left
  · refine ⟨-5, M, R, ?_, ?_, bad⟩
    · by_cases z : x1 = x2
      · rw [if_pos z]
      · rw [if_neg z, e1, bind_some_, oc_none_]
    · rw [e2, bind_some_, if_neg Bool.false_ne_true]
  rcases one_b x2 hw hc hr with ⟨q, hq, rfl, f1, f2⟩ | ⟨f1, f2⟩
  rotate_left
  · refine ⟨-5, M, R, ?_, ?_, bad⟩
    · by_cases z : nI p = x2
      · rw [if_pos z]
      · rw [if_neg z, e1, bind_some_, oc_some_, f1, bind_some_, oc_none_]
    · rw [e2, bind_some_, if_pos rfl, f2, bind_some_, if_neg Bool.false_ne_true]
  rw [e2, bind_some_, if_pos rfl, f2, bind_some_, if_pos rfl]
  by_cases z : nI p = nI q
  · rw [if_pos z, if_pos z]
    exact ⟨_, M, R, rfl, rfl, bad⟩
  obtain ⟨M1, a1, a2, a3⟩ := world_become (N := N) (wi := 2) (wj := 1) hN (by decide) (by decide) (by decide) (by decide) (by decide) hc6 hw.1.2.1 hc.1
  have hc1 : RcS M1 s := hc.mg hw (a3.wk (fun a ha => by unfold inW at ha; unfold gC; omega))
  obtain ⟨M2, b1, b2⟩ := meet_c (N := N) (x1 := nI p) (x2 := nI q) hN hw hp hq 61 N 0 M1 (dS (aV s)) (by omega) (by omega) hc1 a2 hw.1.2.1
  obtain ⟨g, k1, k2, k3⟩ := keeps_r (N := N) (R := R) hN
  obtain ⟨R2, d1, d2, d3⟩ := meet_r (N := N) (w := dW (aV s)) hN hc6 hp hq hw.1.2.2.2 hw.2.1.2.1 hw.2.1.2.2 61 N 0 (dN (aV s)) (rAI R 120 g) (dS (aV s)) (by omega) (by omega) (by omega) hw.1.2.1 hr.2.2.1 hr.1
  obtain ⟨R3, g1, ⟨g2, g3, g4, g5⟩, g6, g7, g8, g9⟩ := lays_r (N := N) hN k2 k3 d2
  rw [if_neg z, if_neg z, e1, bind_some_, oc_some_, f1, bind_some_, oc_some_, a1, bind_some_, numbered_w (by decide) (by decide) hc6 a2.2.2.2.1, numbered_w (by decide) (by decide) hc6 a2.2.2.2.1, if_pos ⟨nI_pos (by omega), (nI_ltI (by omega) (by omega)).mpr hp⟩, if_pos ⟨nI_pos (by omega), (nI_ltI (by omega) (by omega)).mpr hq⟩, bind_some_, bind_some_, oc_some_, oc_some_, nI_clamp (show p < 2 ^ 31 by omega), nI_clamp (show q < 2 ^ 31 by omega), show b_X5_meet_75 N (nI p) (nI q) N (slx 2 p) (slx 2 q) (0 : Int32) M1 = _ from b1, k1, bind_some_, show b_X6_meet_33 N (nI p) (nI q) N (-1 : Int32) (0 : Int32) (rAI R 120 g) = _ from d1]
  unfold b_X6_meet_81
  rw [g1, bind_some_]
  refine ⟨_, M2, R3, rfl, rfl, s, hw, b2, hr.rg hw ⟨g2, fun j => ?_, g4, g5⟩⟩
  by_cases h6 : j = 6
  · subst h6
    rw [g8, d3]; rfl
  · exact g3 j h6
/-! alike -/
theorem round_c {M : Mem} {a k : Nat} {σ : Sl} (hS : RS M a σ) (ha : kd a = 2) (hσ : wfS σ) (hk : k < 2 ^ 31) : f_X2_stitchRound a (nI k) M = some (nI ((kS σ).getD (k % (kS σ).length) 0)) := by
  have h0 : 0 < (kS σ).length := by have := hσ.2.2.2.2.1; omega
  have h16 := hσ.2.2.2.2.2.2.2.1
  unfold f_X2_stitchRound b_X2_stitchRound_0
  rw [show FI M a 7 = _ from hS.2.2.2.2.2.2.2.1, if_neg (nI_nle h0 (by omega)), gd_t (decide_eq_true (nI_ne0 h0 (by omega))), remI hk h0 (by omega), stitchAt_c hS ha h16 (Nat.mod_lt _ h0), bind_some_]
theorem next_mod {a n k : Nat} (h0 : 0 < n) (h : a = k % n) : (if a + 1 = n then 0 else a + 1) = (k + 1) % n := by
  have h1 := Nat.mod_lt k h0
  rw [Nat.add_mod, ← h]
  by_cases e : a + 1 = n
  · rw [if_pos e]
    by_cases h1 : n = 1
    · subst h1; rw [Nat.mod_one]
    · rw [Nat.mod_eq_of_lt (show 1 < n by omega), e, Nat.mod_self]
  · rw [if_neg e]
    rw [Nat.mod_eq_of_lt (show 1 < n by omega), Nat.mod_eq_of_lt (by omega)]
def alN (l1 l2 : List Nat) (n1 n2 : Nat) : Nat → Nat → Nat
  | 0, j => j
  | m + 1, j => if l1.getD ((n1 + j) % l1.length) 0 = l2.getD ((n2 + j) % l2.length) 0 then alN l1 l2 n1 n2 m (j + 1) else j
theorem onEnd_c {N a b : Nat} {M : Mem} {σ τ : Sl} (hS : RS M a σ) (ha : kd a = 2) (hσ : wfS σ) (hT : RS M b τ) (hb : kd b = 2) (hτ : wfS τ) : ∀ (m fu j : Nat), m < fu → j + m = 240 → b_X5_alikeOnEnd_2 N M a b fu (nI j) = some (nI (alN (kS σ) (kS τ) (kN σ) (kN τ) m j)) := by
  intro m
  induction m with
  | zero =>
    intro fu j hf hj
    obtain ⟨fu, rfl⟩ : ∃ z, fu = z + 1 := ⟨fu - 1, by omega⟩
    have : j = 240 := by omega
    subst this
    rw [b_X5_alikeOnEnd_2, if_pos (show (240 : Int32) ≤ nI 240 by decide)]
    rfl
  | succ m ih =>
    intro fu j hf hj
    obtain ⟨fu, rfl⟩ : ∃ z, fu = z + 1 := ⟨fu - 1, by omega⟩
    have h1 : kN σ < 16 := Nat.lt_of_lt_of_le hσ.2.2.2.2.1 hσ.2.2.2.2.2.2.2.1
    have h2 : kN τ < 16 := Nat.lt_of_lt_of_le hτ.2.2.2.2.1 hτ.2.2.2.2.2.2.2.1
    have l1 : 0 < (kS σ).length := Nat.lt_of_le_of_lt (Nat.zero_le _) hσ.2.2.2.2.1
    have l2 : 0 < (kS τ).length := Nat.lt_of_le_of_lt (Nat.zero_le _) hτ.2.2.2.2.1
    have s1 := hσ.2.2.2.2.2.2.2.2 _ (Nat.mod_lt (kN σ + j) l1)
    have s2 := hτ.2.2.2.2.2.2.2.2 _ (Nat.mod_lt (kN τ + j) l2)
    rw [b_X5_alikeOnEnd_2, if_neg (show ¬ (240 : Int32) ≤ nI j from nI_ge (b := 240) (by omega) (by decide)), show FI M a 4 = _ from hS.2.2.2.2.1, show FI M b 4 = _ from hT.2.2.2.2.1, nI_add, nI_add, round_c hS ha hσ (by omega), bind_some_, round_c hT hb hτ (by omega), bind_some_]
    rw [show alN (kS σ) (kS τ) (kN σ) (kN τ) (m + 1) j = (if (kS σ).getD ((kN σ + j) % (kS σ).length) 0 = (kS τ).getD ((kN τ + j) % (kS τ).length) 0 then alN (kS σ) (kS τ) (kN σ) (kN τ) m (j + 1) else j) from rfl]
    by_cases e : (kS σ).getD ((kN σ + j) % (kS σ).length) 0 = (kS τ).getD ((kN τ + j) % (kS τ).length) 0
    · rw [if_pos e, if_pos ((nI_eq (by omega) (by omega)).mpr e), nI_1]
      exact ih fu (j + 1) (by omega) (by omega)
    · rw [if_neg e, if_neg (fun z => e ((nI_eq (by omega) (by omega)).mp z))]
theorem onEnd_r {N p q : Nat} {R : Mem} {σ τ : Sl} (hp : p < 6) (hq : q < 6) (hS : RR R p σ) (hσ : wfS σ) (hT : RR R q τ) (hτ : wfS τ) : ∀ (m fu j a b : Nat), m < fu → j + m = 240 → a = (kN σ + j) % (kS σ).length → b = (kN τ + j) % (kS τ).length → b_X6_onEnd_26 N R (nI p) (nI q) fu (nI a) (nI b) (nI j) = some (nI (alN (kS σ) (kS τ) (kN σ) (kN τ) m j)) := by
  intro m
  have l1 : 0 < (kS σ).length := Nat.lt_of_le_of_lt (Nat.zero_le _) hσ.2.2.2.2.1
  have l2 : 0 < (kS τ).length := Nat.lt_of_le_of_lt (Nat.zero_le _) hτ.2.2.2.2.1
  have f1 : (kS σ).length ≤ 16 := hσ.2.2.2.2.2.2.2.1
  have f2 : (kS τ).length ≤ 16 := hτ.2.2.2.2.2.2.2.1
  have i5 : inb (nI p) (len 105) = true := inb_nI (n := 6) hp (by decide)
  have j5 : inb (nI q) (len 105) = true := inb_nI (n := 6) hq (by decide)
  have kp : (nI p).toNatClampNeg = p := nI_clamp (by omega)
  have kq : (nI q).toNatClampNeg = q := nI_clamp (by omega)
  induction m with
  | zero =>
    intro fu j a b hf hj ha hb
    obtain ⟨fu, rfl⟩ : ∃ z, fu = z + 1 := ⟨fu - 1, by omega⟩
    have : j = 240 := by omega
    subst this
    rw [b_X6_onEnd_26, if_pos (show (240 : Int32) ≤ nI 240 by decide)]
    rfl
  | succ m ih =>
    intro fu j a b hf hj ha hb
    obtain ⟨fu, rfl⟩ : ∃ z, fu = z + 1 := ⟨fu - 1, by omega⟩
    have ha2 : a < (kS σ).length := by rw [ha]; exact Nat.mod_lt _ l1
    have hb2 : b < (kS τ).length := by rw [hb]; exact Nat.mod_lt _ l2
    have s1 := hσ.2.2.2.2.2.2.2.2 a ha2
    have s2 := hτ.2.2.2.2.2.2.2.2 b hb2
    rw [b_X6_onEnd_26, if_neg (show ¬ (240 : Int32) ≤ nI j from nI_ge (b := 240) (by omega) (by decide)), show (16 : Int32) * nI p + nI a = nI (16 * p + a) by rw [show (16 : Int32) * nI p = nI (16 * p) from pk_mul 16 p, nI_add], show (16 : Int32) * nI q + nI b = nI (16 * q + b) by rw [show (16 : Int32) * nI q = nI (16 * q) from pk_mul 16 q, nI_add], gdn (n := len 104) (show 16 * p + a < 96 by omega) (by decide), gdn (n := len 104) (show 16 * q + b < 96 by omega) (by decide), nI_clamp (show 16 * p + a < 2 ^ 31 by omega), nI_clamp (show 16 * q + b < 2 ^ 31 by omega), hS.2.2.2.2.2.2.2.2 a ha2, hT.2.2.2.2.2.2.2.2 b hb2]
    rw [show alN (kS σ) (kS τ) (kN σ) (kN τ) (m + 1) j = (if (kS σ).getD ((kN σ + j) % (kS σ).length) 0 = (kS τ).getD ((kN τ + j) % (kS τ).length) 0 then alN (kS σ) (kS τ) (kN σ) (kN τ) m (j + 1) else j) from rfl, ← ha, ← hb]
    by_cases e : (kS σ).getD a 0 = (kS τ).getD b 0
    · rw [if_pos e, if_pos ((nI_eq (by omega) (by omega)).mpr e), gd_t i5, kp, hS.2.2.2.2.2.2.2.1, nI_1, nI_1, itEq (by omega) (by omega)]
      have e82 : ∀ t : Nat, b_X6_onEnd_82 N R (nI p) (nI q) (b_X6_onEnd_26 N R (nI p) (nI q) fu) (nI b) (nI (j + 1)) (nI t) = b_X6_onEnd_26 N R (nI p) (nI q) fu (nI t) (nI (if b + 1 = (kS τ).length then 0 else b + 1)) (nI (j + 1)) := fun t => by
        unfold b_X6_onEnd_82 b_X6_onEnd_104
        rw [gd_t j5, kq, hT.2.2.2.2.2.2.2.1, nI_1, itEq (by omega) (by omega)]
        by_cases h : b + 1 = (kS τ).length
        · rw [if_pos h, if_pos h]; rfl
        · rw [if_neg h, if_neg h]
      have e0 : (if a + 1 = (kS σ).length then b_X6_onEnd_82 N R (nI p) (nI q) (b_X6_onEnd_26 N R (nI p) (nI q) fu) (nI b) (nI (j + 1)) 0 else b_X6_onEnd_82 N R (nI p) (nI q) (b_X6_onEnd_26 N R (nI p) (nI q) fu) (nI b) (nI (j + 1)) (nI (a + 1))) = b_X6_onEnd_82 N R (nI p) (nI q) (b_X6_onEnd_26 N R (nI p) (nI q) fu) (nI b) (nI (j + 1)) (nI (if a + 1 = (kS σ).length then 0 else a + 1)) := by
        by_cases h : a + 1 = (kS σ).length
        · rw [if_pos h, if_pos h]; rfl
        · rw [if_neg h, if_neg h]
      rw [e0, e82]
      exact ih fu (j + 1) _ _ (by omega) (by omega) (next_mod l1 ha) (next_mod l2 hb)
    · rw [if_neg e, if_neg (fun z => e ((nI_eq (by omega) (by omega)).mp z))]
/-- whether a sock is another one, turned by so much: from k on, m of it -/
def tuB (l1 l2 : List Nat) (b : Nat) : Nat → Nat → Bool
  | 0, _ => true
  | m + 1, k => if l1.getD k 0 = l2.getD ((k + b) % l2.length) 0 then tuB l1 l2 b m (k + 1) else false
theorem turned_c {N a c b : Nat} {M : Mem} {σ τ : Sl} (hS : RS M a σ) (ha : kd a = 2) (hσ : wfS σ) (hT : RS M c τ) (hc : kd c = 2) (hτ : wfS τ) (hb : b < 16) : ∀ (m fu k : Nat), m < fu → k + m = (kS σ).length → b_X5_isTurned_2 N M a c (nI b) fu (nI k) = some (tuB (kS σ) (kS τ) b m k) := by
  intro m
  have f1 : (kS σ).length ≤ 16 := hσ.2.2.2.2.2.2.2.1
  have l2 : 0 < (kS τ).length := Nat.lt_of_le_of_lt (Nat.zero_le _) hτ.2.2.2.2.1
  induction m with
  | zero =>
    intro fu k hf hk
    obtain ⟨fu, rfl⟩ : ∃ z, fu = z + 1 := ⟨fu - 1, by omega⟩
    rw [b_X5_isTurned_2, show FI M a 7 = _ from hS.2.2.2.2.2.2.2.1, if_pos (nI_le (by omega) (by omega))]
    rfl
  | succ m ih =>
    intro fu k hf hk
    obtain ⟨fu, rfl⟩ : ∃ z, fu = z + 1 := ⟨fu - 1, by omega⟩
    have s1 := hσ.2.2.2.2.2.2.2.2 k (by omega)
    have s2 := hτ.2.2.2.2.2.2.2.2 _ (Nat.mod_lt (k + b) l2)
    rw [b_X5_isTurned_2, show FI M a 7 = _ from hS.2.2.2.2.2.2.2.1, if_neg (nI_ge (by omega) (by omega)), stitchAt_c hS ha f1 (by omega), bind_some_, nI_add, round_c hT hc hτ (by omega), bind_some_, nI_1, ih fu (k + 1) (by omega) (by omega)]
    rw [show tuB (kS σ) (kS τ) b (m + 1) k = (if (kS σ).getD k 0 = (kS τ).getD ((k + b) % (kS τ).length) 0 then tuB (kS σ) (kS τ) b m (k + 1) else false) from rfl]
    by_cases e : (kS σ).getD k 0 = (kS τ).getD ((k + b) % (kS τ).length) 0
    · rw [if_pos e, if_pos ((nI_eq (by omega) (by omega)).mpr e)]
    · rw [if_neg e, if_neg (fun z => e ((nI_eq (by omega) (by omega)).mp z))]
theorem turned_r {N p q b : Nat} {R : Mem} {σ τ : Sl} (hp : p < 6) (hq : q < 6) (hS : RR R p σ) (hσ : wfS σ) (hT : RR R q τ) (hτ : wfS τ) (hb : b < 16) (hl : (kS σ).length = (kS τ).length) : ∀ (m fu k : Nat), m < fu → k + m = (kS σ).length → b_X6_isSoTurned_11 N R (nI p) (nI q) (nI b) fu (nI (kS σ).length) (nI k) = some (tuB (kS σ) (kS τ) b m k) := by
  intro m
  have f1 : (kS σ).length ≤ 16 := hσ.2.2.2.2.2.2.2.1
  have l1 : 0 < (kS σ).length := Nat.lt_of_le_of_lt (Nat.zero_le _) hσ.2.2.2.2.1
  induction m with
  | zero =>
    intro fu k hf hk
    obtain ⟨fu, rfl⟩ : ∃ z, fu = z + 1 := ⟨fu - 1, by omega⟩
    rw [b_X6_isSoTurned_11, if_pos (nI_le (by omega) (by omega))]
    rfl
  | succ m ih =>
    intro fu k hf hk
    obtain ⟨fu, rfl⟩ : ∃ z, fu = z + 1 := ⟨fu - 1, by omega⟩
    have hm := Nat.mod_lt (k + b) l1
    have s1 := hσ.2.2.2.2.2.2.2.2 k (by omega)
    have s2 := hτ.2.2.2.2.2.2.2.2 ((k + b) % (kS σ).length) (by omega)
    rw [b_X6_isSoTurned_11, if_neg (nI_ge (by omega) (by omega)), nI_add, remI (by omega) l1 (by omega), show (16 : Int32) * nI p + nI k = nI (16 * p + k) by rw [show (16 : Int32) * nI p = nI (16 * p) from pk_mul 16 p, nI_add], show (16 : Int32) * nI q + nI ((k + b) % (kS σ).length) = nI (16 * q + (k + b) % (kS σ).length) by rw [show (16 : Int32) * nI q = nI (16 * q) from pk_mul 16 q, nI_add], gdn (n := len 104) (show 16 * p + k < 96 by omega) (by decide), gd_t (decide_eq_true (nI_ne0 l1 (by omega))), gdn (n := len 104) (show 16 * q + (k + b) % (kS σ).length < 96 by omega) (by decide), nI_clamp (show 16 * p + k < 2 ^ 31 by omega), nI_clamp (show 16 * q + (k + b) % (kS σ).length < 2 ^ 31 by omega), hS.2.2.2.2.2.2.2.2 k (by omega), hT.2.2.2.2.2.2.2.2 _ (by omega), nI_1, ih fu (k + 1) (by omega) (by omega)]
    rw [show tuB (kS σ) (kS τ) b (m + 1) k = (if (kS σ).getD k 0 = (kS τ).getD ((k + b) % (kS τ).length) 0 then tuB (kS σ) (kS τ) b m (k + 1) else false) from rfl, ← hl]
    by_cases e : (kS σ).getD k 0 = (kS τ).getD ((k + b) % (kS σ).length) 0
    · rw [if_pos e, if_pos ((nI_eq (by omega) (by omega)).mpr e)]
    · rw [if_neg e, if_neg (fun z => e ((nI_eq (by omega) (by omega)).mp z))]
theorem least_b {N p q a c : Nat} {M R : Mem} {σ τ : Sl} (hN : 160 < N) (ha : kd a = 2) (hc : kd c = 2) (hp : p < 6) (hq : q < 6) (hS : RS M a σ) (hT : RS M c τ) (hS' : RR R p σ) (hσ : wfS σ) (hT' : RR R q τ) (hτ : wfS τ) (hl : (kS σ).length = (kS τ).length) : ∀ (m fu b : Nat), m < fu → b + m = (kS σ).length → ∃ r, b_X5_leastTurn_15 N M a c fu (nI b) = some r ∧ b_X6_turnedBy_19 N R (nI p) (nI q) fu (nI b) = some r := by
  intro m
  have f1 : (kS σ).length ≤ 16 := hσ.2.2.2.2.2.2.2.1
  have i5 : inb (nI p) (len 105) = true := inb_nI (n := 6) hp (by decide)
  have kp : (nI p).toNatClampNeg = p := nI_clamp (by omega)
  induction m with
  | zero =>
    intro fu b hf hb
    obtain ⟨fu, rfl⟩ : ∃ z, fu = z + 1 := ⟨fu - 1, by omega⟩
    rw [b_X5_leastTurn_15, b_X6_turnedBy_19, show FI M a 7 = _ from hS.2.2.2.2.2.2.2.1, gd_t i5, kp, hS'.2.2.2.2.2.2.2.1, if_pos (nI_le (by omega) (by omega)), if_pos (nI_le (by omega) (by omega))]
    exact ⟨_, rfl, rfl⟩
  | succ m ih =>
    intro fu b hf hb
    obtain ⟨fu, rfl⟩ : ∃ z, fu = z + 1 := ⟨fu - 1, by omega⟩
    have e1 : f_X5_isTurned N a c (nI b) M = _ := turned_c hS ha hσ hT hc hτ (show b < 16 by omega) (kS σ).length N 0 (by omega) (by omega)
    have e2 : f_X6_isSoTurned N (nI p) (nI q) (nI b) R = some (tuB (kS σ) (kS τ) b (kS σ).length 0) := by
      unfold f_X6_isSoTurned b_X6_isSoTurned_0
      rw [gd_t i5, kp, hS'.2.2.2.2.2.2.2.1]
      exact turned_r hp hq hS' hσ hT' hτ (show b < 16 by omega) hl (kS σ).length N 0 (by omega) (by omega)
    rw [b_X5_leastTurn_15, b_X6_turnedBy_19, show FI M a 7 = _ from hS.2.2.2.2.2.2.2.1, gd_t i5, kp, hS'.2.2.2.2.2.2.2.1, if_neg (nI_ge (by omega) (by omega)), if_neg (nI_ge (by omega) (by omega)), e1, bind_some_, e2, bind_some_, nI_1]
    by_cases e : tuB (kS σ) (kS τ) b (kS σ).length 0 = true
    · rw [if_pos e, if_pos e]
      exact ⟨_, rfl, rfl⟩
    · rw [if_neg e, if_neg e]
      exact ih fu (b + 1) (by omega) (by omega)
theorem st_alike {N : Nat} {M R : Mem} (hN : 240 < N) (x1 x2 x3 : Int32) (h : Sim M R) : ∃ r, f_X5_alike N x1 x2 x3 M = some r ∧ f_X6_alike N x1 x2 x3 R = some r := by
  obtain ⟨s, hw, hc, hr⟩ := h
  have hc6 : dC (aV s) ≤ 6 := hw.1.1
  unfold f_X5_alike b_X5_alike_0 f_X6_alike b_X6_alike_0
  rcases one_b x1 hw hc hr with ⟨p, hp, rfl, e1, e2⟩ | ⟨e1, e2⟩
  rotate_left
  · refine ⟨-5, ?_, ?_⟩
    · rcases one_b x2 hw hc hr with ⟨q, hq, rfl, f1, f2⟩ | ⟨f1, f2⟩
      · rw [e1, bind_some_, f1, bind_some_, oc_none_]
      · rw [e1, bind_some_, f1, bind_some_, oc_none_]
    · rw [e2, bind_some_, if_neg Bool.false_ne_true]
  rcases one_b x2 hw hc hr with ⟨q, hq, rfl, f1, f2⟩ | ⟨f1, f2⟩
  rotate_left
  · refine ⟨-5, ?_, ?_⟩
    · rw [e1, bind_some_, f1, bind_some_, oc_some_, oc_none_]
    · rw [e2, bind_some_, if_pos rfl, f2, bind_some_, if_neg Bool.false_ne_true]
  have ki := slx_kd (wi := 1) (q := p) (by decide) (by decide) (by omega)
  have kj := slx_kd (wi := 1) (q := q) (by decide) (by decide) (by omega)
  have hS := hc.1.2.2.2.2 p hp
  have hT := hc.1.2.2.2.2 q hq
  have hS' := hr.1.2.2.2.2 p hp
  have hT' := hr.1.2.2.2.2 q hq
  have hσ := hw.1.2.1 p hp
  have hτ := hw.1.2.1 q hq
  have f1' : (kS (dS (aV s) p)).length ≤ 16 := hσ.2.2.2.2.2.2.2.1
  have f2' : (kS (dS (aV s) q)).length ≤ 16 := hτ.2.2.2.2.2.2.2.1
  have n1 := hσ.2.2.2.2.1
  have n2 := hτ.2.2.2.2.1
  rw [e1, bind_some_, f1, bind_some_, oc_some_, oc_some_, e2, bind_some_, if_pos rfl, f2, bind_some_, if_pos rfl]
  rcases bit_b x3 with rfl | rfl | ⟨z0, z1, z2⟩
  · rw [if_pos (show (0 : Int32) = 0 from rfl), if_pos (show (0 : Int32) = 0 from rfl), show f_X6_in 0 0 1 R = some true from in_yes (k := 0) (n := 1) (by decide) (by decide) R, bind_some_, if_pos rfl, gd_t (isK_t ki), gd_t (isK_t kj)]
    have a1 : f_X5_alikeOnEnd N (slx 1 p) (slx 1 q) M = _ := onEnd_c hS ki hσ hT kj hτ 240 N 0 (by omega) (by omega)
    have a2 : f_X6_onEnd N (nI p) (nI q) R = some (nI (alN (kS (dS (aV s) p)) (kS (dS (aV s) q)) (kN (dS (aV s) p)) (kN (dS (aV s) q)) 240 0)) := by
      unfold f_X6_onEnd b_X6_onEnd_0 b_X6_onEnd_11 b_X6_onEnd_23
      rw [show (5 : Int32) * nI p + 2 = nI (5 * p + 2) by rw [show (5 : Int32) * nI p = nI (5 * p) from pk_mul 5 p]; exact nI_add _ 2, show (5 : Int32) * nI q + 2 = nI (5 * q + 2) by rw [show (5 : Int32) * nI q = nI (5 * q) from pk_mul 5 q]; exact nI_add _ 2, gdn (n := len 103) (show 5 * p + 2 < 30 by omega) (by decide), gdn (n := len 103) (show 5 * q + 2 < 30 by omega) (by decide), nI_clamp (show 5 * p + 2 < 2 ^ 31 by omega), nI_clamp (show 5 * q + 2 < 2 ^ 31 by omega), hS'.2.2.2.2.1, hT'.2.2.2.2.1]
      exact onEnd_r (N := N) (by omega) (by omega) hS' hσ hT' hτ 240 N 0 _ _ (by omega) (by omega) (by rw [Nat.add_zero, Nat.mod_eq_of_lt n1]) (by rw [Nat.add_zero, Nat.mod_eq_of_lt n2])
    rw [a1, bind_some_, a2, bind_some_]
    exact ⟨_, rfl, rfl⟩
  · rw [if_neg (show ¬ (1 : Int32) = 0 by decide), if_pos (show (1 : Int32) = 1 from rfl), show f_X6_in 1 0 1 R = some true from in_yes (k := 1) (n := 1) (by decide) (by decide) R, bind_some_, if_pos rfl, if_neg (show ¬ (1 : Int32) = 0 by decide), gd_t (isK_t ki), gd_t (isK_t kj)]
    have i5 : inb (nI p) (len 105) = true := inb_nI (n := 6) (by omega) (by decide)
    have j5 : inb (nI q) (len 105) = true := inb_nI (n := 6) (by omega) (by decide)
    unfold f_X5_leastTurn b_X5_leastTurn_0 f_X6_turnedBy b_X6_turnedBy_0
    rw [show FI M (slx 1 p) 7 = _ from hS.2.2.2.2.2.2.2.1, show FI M (slx 1 q) 7 = _ from hT.2.2.2.2.2.2.2.1, gd_t i5, gd_t j5, nI_clamp (show p < 2 ^ 31 by omega), nI_clamp (show q < 2 ^ 31 by omega), hS'.2.2.2.2.2.2.2.1, hT'.2.2.2.2.2.2.2.1]
    by_cases hl : (kS (dS (aV s) p)).length = (kS (dS (aV s) q)).length
    · have hl' : nI (kS (dS (aV s) p)).length = nI (kS (dS (aV s) q)).length := by rw [hl]
      rw [if_pos hl', if_pos hl']
      obtain ⟨r, a1, a2⟩ := least_b (N := N) (M := M) (R := R) (by omega) ki kj (show p < 6 by omega) (show q < 6 by omega) hS hT hS' hσ hT' hτ hl (kS (dS (aV s) p)).length N 0 (by omega) (by omega)
      rw [show b_X5_leastTurn_15 N M (slx 1 p) (slx 1 q) N (0 : Int32) = _ from a1, bind_some_, show b_X6_turnedBy_19 N R (nI p) (nI q) N (0 : Int32) = _ from a2, bind_some_]
      exact ⟨_, rfl, rfl⟩
    · have hl' : ¬ nI (kS (dS (aV s) p)).length = nI (kS (dS (aV s) q)).length := fun z => hl ((nI_eq (by omega) (by omega)).mp z)
      rw [if_neg hl', if_neg hl', bind_some_]
      exact ⟨_, rfl, rfl⟩
  · rw [if_neg z0, if_neg z1, in_r, z2, bind_some_, if_neg Bool.false_ne_true]
    exact ⟨_, rfl, rfl⟩
