/-! L2: told nights: what both sides do with one -/
theorem begin_s {M : Mem} {s : St} {p : Nat} (hw : wfSt s) (hc : RcS M s) (hp : p < dC (aV s)) : ∃ M1, f_X5_beginThought (nI p) M = some (true, M1) ∧ RS M1 4 (dS (aV s) p) ∧ RcS M1 s := by
  have hc6 : dC (aV s) ≤ 6 := hw.1.1
  have ki := slx_kd (wi := 1) (q := p) (by decide) (by decide) (by omega)
  have si := slx_eq (wi := 1) (by decide) (by decide) p
  obtain ⟨M1, a1, a2, a3⟩ := become_c (a := 4) (b := slx 1 p) rfl ki (by omega) (hc.1.2.2.2.2 p hp) (hw.1.2.1 p hp)
  refine ⟨M1, ?_, a2, hc.mg hw (a3.wk (fun a ha => by unfold gC; omega))⟩
  unfold f_X5_beginThought b_X5_beginThought_0
  rw [numbered_w (by decide) (by decide) hc6 hc.1.2.2.2.1, if_pos ⟨nI_pos (by omega), (nI_ltI (by omega) (by omega)).mpr hp⟩, bind_some_, oc_some_, nI_clamp (by omega), gd_t (isK_t ki), a1, bind_some_]
theorem begin_no {M : Mem} {x : Int32} (h : f_X4_numbered 1 x M = some none) : f_X5_beginThought x M = some (false, M) := by
  unfold f_X5_beginThought b_X5_beginThought_0
  rw [h, bind_some_, oc_none_]
theorem ghost_fi {M : Mem} {s : St} (hw : wfSt s) (hc : RcS M s) (k : Nat) (v : Int32) : RcS (sFI M 4 k v) s := hc.mg hw ((Mx.fi M 4 k v).wk (fun a ha => by unfold gC; omega))
theorem law_s {M : Mem} {s : St} (hw : wfSt s) (hc : RcS M s) : f_X5_theLaw M = some (46 + dL (aV s)) := theLaw_c (by have := hw.1.2.2.2; have := hw.2.1.2.1; omega) hc.1.2.2.1
theorem kdt {s : St} (hw : wfSt s) {t : Nat} (ht : t < aX s) : kd (46 + t) = 3 := kd_t (by have := hw.2.1.2.1; omega)
theorem walk_s {N t k : Nat} {M : Mem} {s : St} {σ : Sl} (hN : 160 < N) (hw : wfSt s) (hc : RcS M s) (hS : RS M 4 σ) (hσ : wfS σ) (ht : t < aX s) (hk : k < 1000) : ∃ M1, f_X2_walk N 4 (46 + t) (FI M 1 1 + nI k) (FJ M 1 0) M = some (nI (walkS (aT s t) (dN (aV s) + k) (dW (aV s)) σ).1, M1) ∧ RS M1 4 (walkS (aT s t) (dN (aV s) + k) (dW (aV s)) σ).2.1 ∧ RcS M1 s := by
  have hn9 : dN (aV s) ≤ 999 := hw.1.2.2.1
  obtain ⟨M1, e1, s1, m1, -⟩ := walk_c (N := N) (t := 46 + t) (night := dN (aV s) + k) (dW (aV s)) hN (kdt hw ht) (show kd 4 = 2 from rfl) hS hσ (hc.2.2.1 t ht) (hw.2.1.2.2 t ht) (by omega)
  rw [show FI M 1 1 = _ from hc.1.2.1, show FJ M 1 0 = _ from hc.1.1, nI_add]
  exact ⟨M1, e1, s1, hc.mg hw (m1.mx.wk (fun a ha => by unfold gC; omega))⟩
theorem walkN_s {N n : Nat} {M : Mem} {s : St} {σ : Sl} (hN : 160 < N) (hn : n ≤ 100) (hw : wfSt s) (hc : RcS M s) (hS : RS M 4 σ) (hσ : wfS σ) : ∃ M2, f_X5_walkNights N (nI n) M = some M2 ∧ RS M2 4 (itN (aT s (dL (aV s))) (dW (aV s)) n (dN (aV s)) σ).1 ∧ RcS M2 s := by
  have hn9 : dN (aV s) ≤ 999 := hw.1.2.2.1
  obtain ⟨M2, b1, b2, b3, b4⟩ := walkNights_c (N := N) (n := n) (σ := σ) hN hw.1.2.2.2 hw.2.1.2.1 hw.2.1.2.2 hn (show dN (aV s) < 10000 by omega) hσ hc.1.2.2.1 hc.1.2.1 hc.1.1 hc.2.2.1 hS
  exact ⟨M2, b1, b2, hc.mg hw (b4.wk (fun a ha => by unfold gC; omega))⟩
/-- the first told number that is otherwise -/
def foN (x : Txt) (w : Int64) (u : Nat → Int32) : Nat → Nat → Nat → Sl → Option Nat
  | 0, _, _, _ => none
  | m + 1, j, night, σ => if u j = nI (kC (walkS x night w σ).2.1) then foN x w u m (j + 1) (night + 1) (walkS x night w σ).2.1 else some j
theorem fo_loop {N k t : Nat} {s : St} (hN : 160 < N) (hw : wfSt s) (hk : k < 4) (ht : t < aX s) : ∀ (m fu j : Nat) (M : Mem) (σ : Sl), m < fu → j + m = aZ s k → RcS M s → RS M 4 σ → wfS σ →
    ∃ M', b_X5_firstOtherwise_2 N (74 + k) (46 + t) fu (nI j) M = some (resI (foN (aT s t) (dW (aV s)) (aU s k) m j (dN (aV s) + j) σ), M') ∧ RcS M' s := by
  intro m
  obtain ⟨u0, u1, u2⟩ := hw.2.2.2.2 k hk
  induction m with
  | zero =>
    intro fu j M σ hf hj hc hS hσ
    obtain ⟨fu, rfl⟩ : ∃ z, fu = z + 1 := ⟨fu - 1, by omega⟩
    obtain ⟨c0, c1, c2⟩ := hc.2.2.2.2.2.2.2 k hk
    rw [b_X5_firstOtherwise_2, c1, if_pos (nI_le (by omega) (by omega))]
    exact ⟨M, rfl, hc⟩
  | succ m ih =>
    intro fu j M σ hf hj hc hS hσ
    obtain ⟨fu, rfl⟩ : ∃ z, fu = z + 1 := ⟨fu - 1, by omega⟩
    obtain ⟨c0, c1, c2⟩ := hc.2.2.2.2.2.2.2 k hk
    obtain ⟨M1, e1, s1, h1⟩ := walk_s (N := N) (k := j) hN hw hc hS hσ ht (by omega)
    obtain ⟨d0, d1, d2⟩ := h1.2.2.2.2.2.2.2 k hk
    rw [b_X5_firstOtherwise_2, c1, if_neg (nI_ge (by omega) (by omega)), e1, bd2_s, read_c hk u1 d1 d2 (by omega), bind_some_, show FI M1 4 2 = _ from s1.2.2.1]
    rw [show foN (aT s t) (dW (aV s)) (aU s k) (m + 1) j (dN (aV s) + j) σ = (if aU s k j = nI (kC (walkS (aT s t) (dN (aV s) + j) (dW (aV s)) σ).2.1) then foN (aT s t) (dW (aV s)) (aU s k) m (j + 1) (dN (aV s) + j + 1) (walkS (aT s t) (dN (aV s) + j) (dW (aV s)) σ).2.1 else some j) from rfl]
    by_cases e : aU s k j = nI (kC (walkS (aT s t) (dN (aV s) + j) (dW (aV s)) σ).2.1)
    · rw [if_pos e, if_pos e.symm, nI_1]
      exact ih fu (j + 1) M1 _ (by omega) (by omega) h1 s1 (wf_walk hσ)
    · rw [if_neg e, if_neg (fun z => e z.symm)]
      exact ⟨M1, rfl, h1⟩
theorem fo_c {N k t : Nat} {s : St} {M : Mem} {σ : Sl} (hN : 160 < N) (hw : wfSt s) (hk : k < 4) (ht : t < aX s) (hc : RcS M s) (hS : RS M 4 σ) (hσ : wfS σ) : ∃ M', f_X5_firstOtherwise N (74 + k) (46 + t) M = some (resI (foN (aT s t) (dW (aV s)) (aU s k) (aZ s k) 0 (dN (aV s)) σ), M') ∧ RcS M' s := by
  have hz := (hw.2.2.2.2 k hk).2.1
  exact fo_loop hN hw hk ht (aZ s k) N 0 M σ (by omega) (by omega) hc hS hσ
theorem resI_m1 {o : Option Nat} (h : ∀ j, o = some j → j < 2 ^ 31) : (resI o = -1) = (o = none) := by
  cases o with
  | none => exact propext ⟨fun _ => rfl, fun _ => rfl⟩
  | some j => exact propext ⟨fun z => absurd z (nI_m1 j (h j rfl)), fun z => by cases z⟩
theorem foN_lt {x : Txt} {w : Int64} {u : Nat → Int32} : ∀ (m j night : Nat) (σ : Sl) (i : Nat), foN x w u m j night σ = some i → i < j + m
  | 0, _, _, _, _, h => by cases h
  | m + 1, j, night, σ, i, h => by
    unfold foN at h
    split at h
    · have := foN_lt m (j + 1) _ _ i h
      omega
    · cases h
      omega
/-- the reference: unlike, in any world of it -/
theorem unl_loop {N k p z cnt law tx : Nat} {w : Int64} {tf : Nat → Txt} {u : Nat → Int32} (hN : 160 < N) (hc : cnt ≤ 6) (hp : p < cnt) (hk : k < 4) (hz : z ≤ 40) (hl : law < tx) (htx : tx ≤ 6) (hxf : ∀ i, i < tx → wfT (tf i)) : ∀ (m fu j night : Nat) (R : Mem) (σf : Nat → Sl), m + 1 < fu → j + m = z → night + m < 100000 → (∀ q, q < cnt → wfS (σf q)) → TR R tx tf → WR R cnt σf w night law → AI R 112 k = nI z → (∀ i, i < 40 → AI R 113 (40 * k + i) = u i) →
    ∃ R', b_X6_unlike_9 N (nI k) (nI p) fu (-1) (nI j) R = b_X6_unlike_65 N (nI k) (nI p) (resI (foN (tf law) w u m j night (σf p))) R' ∧ Mt R R' ∧ FJ R' 100 6 = FJ R 100 6 := by
  intro m
  induction m with
  | zero =>
    intro fu j night R σf hf hj hn hwf hT hW h1 h2
    obtain ⟨fu, rfl⟩ : ∃ z, fu = z + 1 := ⟨fu - 1, by omega⟩
    rw [b_X6_unlike_9, gdn (n := len 112) (show k < 4 from hk) (by decide), nI_clamp (by omega), h1, if_pos (nI_le (by omega) (by omega))]
    exact ⟨R, rfl, Mt.rf R, rfl⟩
  | succ m ih =>
    intro fu j night R σf hf hj hn hwf hT hW h1 h2
    obtain ⟨fu, rfl⟩ : ∃ z, fu = z + 1 := ⟨fu - 1, by omega⟩
    obtain ⟨R1, e1, W1, m1, f1, -⟩ := night_w (N := N) hN hc hl htx hxf (by omega) hwf hT hW
    have mt := Mt.mn m1
    have a2 : AI R1 112 k = nI z := by rw [mt.2.2 112 (by decide) (by decide) (by decide)]; exact h1
    have a3 : ∀ i, i < 40 → AI R1 113 (40 * k + i) = u i := fun i hi => by rw [mt.2.2 113 (by decide) (by decide) (by decide)]; exact h2 i hi
    rw [b_X6_unlike_9, gdn (n := len 112) (show k < 4 from hk) (by decide), nI_clamp (show k < 2 ^ 31 by omega), h1, if_neg (nI_ge (by omega) (by omega)), if_pos rfl, e1, bind_some_, show (40 : Int32) * nI k + nI j = nI (40 * k + j) by rw [show (40 : Int32) * nI k = nI (40 * k) from pk_mul 40 k, nI_add], show (5 : Int32) * nI p = nI (5 * p) from pk_mul 5 p, gdn (n := len 113) (show 40 * k + j < 160 by omega) (by decide), gdn (n := len 103) (show 5 * p < 30 by omega) (by decide), nI_clamp (show 40 * k + j < 2 ^ 31 by omega), nI_clamp (show 5 * p < 2 ^ 31 by omega), a3 j (by omega), show AI R1 103 (5 * p) = _ from (W1.2.2.2.2 p hp).2.2.1]
    unfold b_X6_unlike_58
    rw [show foN (tf law) w u (m + 1) j night (σf p) = (if u j = nI (kC (walkS (tf law) night w (σf p)).2.1) then foN (tf law) w u m (j + 1) (night + 1) (walkS (tf law) night w (σf p)).2.1 else some j) from rfl]
    by_cases e : u j = nI (kC (walkS (tf law) night w (σf p)).2.1)
    · rw [if_pos e, if_pos e, nI_1]
      obtain ⟨R', b1, b2, b3⟩ := ih fu (j + 1) (night + 1) R1 (fun q => (walkS (tf law) night w (σf q)).2.1) (by omega) (by omega) (by omega) (fun q hq => wf_walk (hwf q hq)) (hT.mt mt) W1 a2 a3
      exact ⟨R', b1, mt.tr b2, b3.trans (m1.2.1 6)⟩
    · rw [if_neg e, if_neg e, nI_1]
      obtain ⟨fu, rfl⟩ : ∃ z, fu = z + 1 := ⟨fu - 1, by omega⟩
      rw [b_X6_unlike_9, gdn (n := len 112) (show k < 4 from hk) (by decide), nI_clamp (show k < 2 ^ 31 by omega), if_neg (nI_m1 j (by omega)), ite_self]
      exact ⟨R1, rfl, mt, m1.2.1 6⟩
theorem unlike_g {N k p z cnt law tx night : Nat} {w : Int64} {tf : Nat → Txt} {u : Nat → Int32} {R : Mem} {σf : Nat → Sl} (hN : 160 < N) (hc : cnt ≤ 6) (hp : p < cnt) (hk : k < 4) (hz : z ≤ 40) (hl : law < tx) (htx : tx ≤ 6) (hxf : ∀ i, i < tx → wfT (tf i)) (hn : night ≤ 999) (hwf : ∀ q, q < cnt → wfS (σf q)) (hT : TR R tx tf) (hW : WR R cnt σf w night law) (h1 : AI R 112 k = nI z) (h2 : ∀ i, i < 40 → AI R 113 (40 * k + i) = u i) :
    ∃ R', f_X6_unlike N (nI k) (nI p) R = some (resI (foN (tf law) w u z 0 night (σf p)), R') ∧ Rg R R' := by
  obtain ⟨g, e1, e2, e3⟩ := keeps_r (N := N) (R := R) hN
  obtain ⟨R2, b1, b2, b3⟩ := unl_loop (N := N) (w := w) (u := u) hN hc hp hk hz hl htx hxf z N 0 night (rAI R 120 g) σf (by omega) (by omega) (by omega) hwf hT hW h1 h2
  obtain ⟨R3, c1, ⟨c2, c3, c4, c5⟩, c6, c7, c8, c9⟩ := lays_r (N := N) hN e2 e3 b2
  unfold f_X6_unlike b_X6_unlike_0
  rw [e1, bind_some_, show ((0 : Int32)) = nI 0 from rfl, b1]
  unfold b_X6_unlike_65
  rw [c1, bind_some_]
  refine ⟨R3, rfl, c2, fun j => ?_, c4, c5⟩
  by_cases h6 : j = 6
  · subst h6
    rw [c8, b3]; rfl
  · exact c3 j h6
theorem unlike_s {N k p : Nat} {R : Mem} {s : St} (hN : 160 < N) (hw : wfSt s) (hr : RrS R s) (hp : p < dC (aV s)) (hk : k < 4) : ∃ R', f_X6_unlike N (nI k) (nI p) R = some (resI (foN (aT s (dL (aV s))) (dW (aV s)) (aU s k) (aZ s k) 0 (dN (aV s)) (dS (aV s) p)), R') ∧ RrS R' s := by
  obtain ⟨d0, d1, d2⟩ := hr.2.2.2.2.2.2.2.1 k hk
  obtain ⟨R', a1, a2⟩ := unlike_g (N := N) (u := aU s k) hN hw.1.1 hp hk (hw.2.2.2.2 k hk).2.1 hw.1.2.2.2 hw.2.1.2.1 hw.2.1.2.2 hw.1.2.2.1 hw.1.2.1 hr.2.2.1 hr.1 d1 d2
  exact ⟨R', a1, hr.rg hw a2⟩
theorem foN_m1 {x : Txt} {w : Int64} {u : Nat → Int32} {z night : Nat} {σ : Sl} (hz : z ≤ 40) : (resI (foN x w u z 0 night σ) = -1) = (foN x w u z 0 night σ = none) := resI_m1 (fun j h => by have := foN_lt _ _ _ _ _ h; omega)
/-- which sheets are told of somebody -/
theorem sw_b (x : Int32) {M R : Mem} {s : St} (hc : RcS M s) (hr : RrS R s) (hw : wfSt s) : (∃ k : Nat, k < 4 ∧ x = nI k ∧ aZ s k ≤ 20 ∧ f_X5_toldRefusal x M = some 0 ∧ f_X6_sheetWrong x R = some 0) ∨ (∃ r : Int32, ¬ r = 0 ∧ f_X5_toldRefusal x M = some r ∧ f_X6_sheetWrong x R = some r) := by
  unfold f_X5_toldRefusal b_X5_toldRefusal_0 f_X6_sheetWrong b_X6_sheetWrong_0
  rcases sheet_b x M R with ⟨k, hk, rfl, e1, e2⟩ | ⟨e1, e2⟩
  · obtain ⟨c0, c1, c2⟩ := hc.2.2.2.2.2.2.2 k hk
    obtain ⟨d0, d1, d2⟩ := hr.2.2.2.2.2.2.2.1 k hk
    obtain ⟨u0, u1, u2⟩ := hw.2.2.2.2 k hk
    have i1 : inb (nI k) (len 111) = true := inb_nI (n := 4) hk (by decide)
    have i2 : inb (nI k) (len 112) = true := inb_nI (n := 4) hk (by decide)
    rw [sref_c hk, bind_some_, c0, e2, bind_some_, if_pos rfl, gd_t i1, gd_t i2, nI_clamp (by omega), d0, d1, gd_t (i73 hk), ar73, gd_t (isK_t (kd1 hk)), c1]
    by_cases hm : aO s k = -1
    · right
      refine ⟨-11, by decide, ?_, ?_⟩
      · rw [if_pos hm, if_neg (show ¬ (-11 : Int32) = 0 by decide)]
      · rw [if_pos hm]
    · rw [if_neg hm, if_neg hm, if_pos (show (0 : Int32) = 0 from rfl), show (20 : Int32) = nI 20 from rfl, itLe (by omega) (by decide)]
      by_cases h20 : aZ s k ≤ 20
      · left
        exact ⟨k, hk, rfl, h20, by rw [if_pos h20], by rw [if_pos h20]⟩
      · right
        exact ⟨-2, by decide, by rw [if_neg h20], by rw [if_neg h20]⟩
  · right
    refine ⟨-2, by decide, ?_, ?_⟩
    · rw [sref_no e1, bind_some_, if_neg (show ¬ (-2 : Int32) = 0 by decide)]
    · rw [e2, bind_some_, if_neg Bool.false_ne_true]
theorem tw_b (x1 x2 : Int32) {M R : Mem} {s : St} (hw : wfSt s) (hc : RcS M s) (hr : RrS R s) : (∃ k p : Nat, k < 4 ∧ p < dC (aV s) ∧ x1 = nI k ∧ x2 = nI p ∧ aZ s k ≤ 20 ∧ f_X5_toldOfRefusal x1 x2 M = some 0 ∧ f_X6_toldWrong x1 x2 R = some 0) ∨ (∃ r : Int32, ¬ r = 0 ∧ f_X5_toldOfRefusal x1 x2 M = some r ∧ f_X6_toldWrong x1 x2 R = some r) := by
  unfold f_X5_toldOfRefusal b_X5_toldOfRefusal_0 f_X6_toldWrong b_X6_toldWrong_0
  rcases sw_b x1 hc hr hw with ⟨k, hk, rfl, hz, e1, e2⟩ | ⟨r, h0, e1, e2⟩
  · rw [e1, e2, bind_some_, bind_some_, if_pos (show (0 : Int32) = 0 from rfl), if_pos (show (0 : Int32) = 0 from rfl)]
    rcases one_b x2 hw hc hr with ⟨p, hp, rfl, f1, f2⟩ | ⟨f1, f2⟩
    · left
      exact ⟨k, p, hk, hp, rfl, rfl, hz, by rw [f1, bind_some_, oc_some_], by rw [f2, bind_some_, if_pos rfl]⟩
    · right
      exact ⟨-5, by decide, by rw [f1, bind_some_, oc_none_], by rw [f2, bind_some_, if_neg Bool.false_ne_true]⟩
  · right
    exact ⟨r, h0, by rw [e1, bind_some_, if_neg h0], by rw [e2, bind_some_, if_neg h0]⟩
theorem st_judge {N : Nat} {M R : Mem} (hN : 160 < N) (x1 x2 : Int32) (h : Sim M R) : ∃ r M' R', f_X5_judge N x1 x2 M = some (r, M') ∧ f_X6_judge N x1 x2 R = some (r, R') ∧ Sim M' R' := by
  obtain ⟨s, hw, hc, hr⟩ := h
  unfold f_X5_judge b_X5_judge_0 f_X6_judge b_X6_judge_0
  rcases tw_b x1 x2 hw hc hr with ⟨k, p, hk, hp, rfl, rfl, hz, e1, e2⟩ | ⟨r, h0, e1, e2⟩
  · obtain ⟨M1, a1, a2, a3⟩ := begin_s hw hc hp
    obtain ⟨M2, b1, b2⟩ := fo_c (N := N) hN hw hk hw.1.2.2.2 a3 a2 (hw.1.2.1 p hp)
    obtain ⟨R', c1, c2⟩ := unlike_s (N := N) hN hw hr hp hk
    rw [e1, e2, bind_some_, bind_some_, if_pos (show (0 : Int32) = 0 from rfl), if_pos (show (0 : Int32) = 0 from rfl), a1, bd2_s, gd_t (i73 hk), law_s hw a3, bind_some_, nI_clamp (by omega), ar73, gd_t (isK_t (kd1 hk)), gd_t (isK_t (kdt hw hw.1.2.2.2)), b1, bd2_s, c1, bd2_s]
    exact ⟨_, _, _, rfl, rfl, s, hw, b2, c2⟩
  · rw [e1, e2, bind_some_, bind_some_, if_neg h0, if_neg h0]
    exact ⟨_, M, R, rfl, rfl, s, hw, hc, hr⟩
theorem whose_loop {N k : Nat} {s : St} (hN : 160 < N) (hw : wfSt s) (hk : k < 4) : ∀ (m fu p : Nat) (acc : Int32) (M R : Mem), m < fu → p + m = dC (aV s) → RcS M s → RrS R s →
    ∃ r M' R', b_X5_whose_17 N (nI k) fu acc (nI p) M = some (r, M') ∧ b_X6_whose_17 N (nI k) fu acc (nI p) R = some (r, R') ∧ RcS M' s ∧ RrS R' s := by
  intro m
  have hc6 : dC (aV s) ≤ 6 := hw.1.1
  have hz := (hw.2.2.2.2 k hk).2.1
  induction m with
  | zero =>
    intro fu p acc M R hf hp hc hr
    obtain ⟨fu, rfl⟩ : ∃ z, fu = z + 1 := ⟨fu - 1, by omega⟩
    rw [b_X5_whose_17, b_X6_whose_17, show FI M 1 3 = _ from hc.1.2.2.2.1, show FI R 100 0 = _ from hr.1.2.2.2.1, if_pos (nI_le (by omega) (by omega)), if_pos (nI_le (by omega) (by omega))]
    exact ⟨_, _, _, rfl, rfl, hc, hr⟩
  | succ m ih =>
    intro fu p acc M R hf hp hc hr
    obtain ⟨fu, rfl⟩ : ∃ z, fu = z + 1 := ⟨fu - 1, by omega⟩
    have hpc : p < dC (aV s) := by omega
    obtain ⟨M1, a1, a2, a3⟩ := begin_s hw hc hpc
    obtain ⟨M2, b1, b2⟩ := fo_c (N := N) hN hw hk hw.1.2.2.2 a3 a2 (hw.1.2.1 p hpc)
    obtain ⟨R', c1, c2⟩ := unlike_s (N := N) hN hw hr hpc hk
    rw [b_X5_whose_17, b_X6_whose_17, show FI M 1 3 = _ from hc.1.2.2.2.1, show FI R 100 0 = _ from hr.1.2.2.2.1, if_neg (nI_ge (by omega) (by omega)), if_neg (nI_ge (by omega) (by omega)), a1, bd2_s, gd_t (i73 hk), law_s hw a3, bind_some_, nI_clamp (show k < 2 ^ 31 by omega), ar73, gd_t (isK_t (kd1 hk)), gd_t (isK_t (kdt hw hw.1.2.2.2)), b1, bd2_s, c1, bd2_s]
    unfold b_X5_whose_61 b_X6_whose_46
    rw [nI_1]
    by_cases e : resI (foN (aT s (dL (aV s))) (dW (aV s)) (aU s k) (aZ s k) 0 (dN (aV s)) (dS (aV s) p)) = -1
    · rw [if_pos e, if_pos e]
      exact ih fu (p + 1) _ M2 R' (by omega) (by omega) b2 c2
    · rw [if_neg e, if_neg e, Int32.or_zero]
      exact ih fu (p + 1) _ M2 R' (by omega) (by omega) b2 c2
theorem st_whose {N : Nat} {M R : Mem} (hN : 160 < N) (x1 : Int32) (h : Sim M R) : ∃ r M' R', f_X5_whose N x1 M = some (r, M') ∧ f_X6_whose N x1 R = some (r, R') ∧ Sim M' R' := by
  obtain ⟨s, hw, hc, hr⟩ := h
  have hc6 : dC (aV s) ≤ 6 := hw.1.1
  unfold f_X5_whose b_X5_whose_0 f_X6_whose b_X6_whose_0
  rcases sw_b x1 hc hr hw with ⟨k, hk, rfl, hz, e1, e2⟩ | ⟨r, h0, e1, e2⟩
  · rw [e1, e2, bind_some_, bind_some_, if_pos (show (0 : Int32) = 0 from rfl), if_pos (show (0 : Int32) = 0 from rfl)]
    obtain ⟨r, M', R', a1, a2, a3, a4⟩ := whose_loop (N := N) hN hw hk (dC (aV s)) N 0 0 M R (by omega) (by omega) hc hr
    exact ⟨r, M', R', a1, a2, s, hw, a3, a4⟩
  · rw [e1, e2, bind_some_, bind_some_, if_neg h0, if_neg h0]
    exact ⟨_, M, R, rfl, rfl, s, hw, hc, hr⟩
def withL (s : St) (l : Nat) : St := withV s (mkV (dC (aV s)) (dS (aV s)) (dW (aV s)) (dN (aV s)) l)
theorem wf_withL {s : St} {l : Nat} (h : wfSt s) (hl : l < aX s) : wfSt (withL s l) := wf_sc h h.1.2.2.1 hl
theorem law_set {R : Mem} {s : St} {l t : Nat} (h : RrS R (withL s l)) : RrS (sFI R 100 13 (nI t)) (withL s t) :=
  h.sc (s := withL s l) (fun j _ h13 => FI_n h13) (fun _ _ => rfl) (fun _ => rfl) h.1.1 ((FI_n (by decide)).trans h.1.2.1) FI_s
theorem laws_loop {N k p : Nat} {s : St} (hN : 160 < N) (hw : wfSt s) (hk : k < 4) (hp : p < dC (aV s)) : ∀ (m fu t l : Nat) (acc : Int32) (M R : Mem), m < fu → t + m = aX s → l < aX s → RcS M s → RrS R (withL s l) →
    ∃ r M' R', b_X5_laws_19 N (nI k) (nI p) fu acc (nI t) M = some (r, M') ∧ b_X6_laws_25 N (nI k) (nI p) fu (nI (dL (aV s))) acc (nI t) R = some (r, R') ∧ RcS M' s ∧ RrS R' s := by
  intro m
  have hx6 : aX s ≤ 6 := hw.2.1.2.1
  have hz := (hw.2.2.2.2 k hk).2.1
  induction m with
  | zero =>
    intro fu t l acc M R hf ht hl hc hr
    obtain ⟨fu, rfl⟩ : ∃ z, fu = z + 1 := ⟨fu - 1, by omega⟩
    rw [b_X5_laws_19, b_X6_laws_25, show FI M 0 8 = _ from hc.2.1, show FI R 100 12 = nI (aX s) from hr.2.1, if_pos (nI_le (by omega) (by omega)), if_pos (nI_le (by omega) (by omega))]
    exact ⟨_, _, _, rfl, rfl, hc, law_set hr⟩
  | succ m ih =>
    intro fu t l acc M R hf ht hl hc hr
    obtain ⟨fu, rfl⟩ : ∃ z, fu = z + 1 := ⟨fu - 1, by omega⟩
    have htx : t < aX s := by omega
    obtain ⟨M1, a1, a2, a3⟩ := begin_s hw hc hp
    obtain ⟨M2, b1, b2⟩ := fo_c (N := N) hN hw hk htx a3 a2 (hw.1.2.1 p hp)
    obtain ⟨R', c1, c2⟩ := unlike_s (N := N) (s := withL s t) hN (wf_withL hw htx) (law_set (t := t) hr) hp hk
    rw [b_X5_laws_19, b_X6_laws_25, show FI M 0 8 = _ from hc.2.1, show FI R 100 12 = nI (aX s) from hr.2.1, if_neg (nI_ge (by omega) (by omega)), if_neg (nI_ge (by omega) (by omega)), a1, bd2_s, gd_t (i73 hk), textN_c (by omega), bind_some_, nI_clamp (show k < 2 ^ 31 by omega), ar73, gd_t (isK_t (kd1 hk)), gd_t (isK_t (kdt hw htx)), b1, bd2_s]
    unfold b_X6_laws_40
    rw [c1, bd2_s]
    unfold b_X5_laws_63 b_X6_laws_60
    rw [nI_1]
    show ∃ r M' R'', _ = some (r, M') ∧ (if resI (foN (aT s t) (dW (aV s)) (aU s k) (aZ s k) 0 (dN (aV s)) (dS (aV s) p)) = -1 then _ else _) = some (r, R'') ∧ _
    by_cases e : resI (foN (aT s t) (dW (aV s)) (aU s k) (aZ s k) 0 (dN (aV s)) (dS (aV s) p)) = -1
    · rw [if_pos e, if_pos e]
      exact ih fu (t + 1) t _ M2 R' (by omega) (by omega) htx b2 c2
    · rw [if_neg e, if_neg e, Int32.or_zero]
      exact ih fu (t + 1) t _ M2 R' (by omega) (by omega) htx b2 c2
theorem st_laws {N : Nat} {M R : Mem} (hN : 160 < N) (x1 x2 : Int32) (h : Sim M R) : ∃ r M' R', f_X5_laws N x1 x2 M = some (r, M') ∧ f_X6_laws N x1 x2 R = some (r, R') ∧ Sim M' R' := by
  obtain ⟨s, hw, hc, hr⟩ := h
  have hx6 : aX s ≤ 6 := hw.2.1.2.1
  unfold f_X5_laws b_X5_laws_0 f_X6_laws b_X6_laws_0
  rcases tw_b x1 x2 hw hc hr with ⟨k, p, hk, hp, rfl, rfl, hz, e1, e2⟩ | ⟨r, h0, e1, e2⟩
  · rw [e1, e2, bind_some_, bind_some_, if_pos (show (0 : Int32) = 0 from rfl), if_pos (show (0 : Int32) = 0 from rfl), show FI R 100 13 = _ from hr.1.2.2.1]
    obtain ⟨r, M', R', a1, a2, a3, a4⟩ := laws_loop (N := N) hN hw hk hp (aX s) N 0 (dL (aV s)) 0 M R (by omega) (by omega) hw.1.2.2.2 hc hr
    exact ⟨r, M', R', a1, a2, s, hw, a3, a4⟩
  · rw [e1, e2, bind_some_, bind_some_, if_neg h0, if_neg h0]
    exact ⟨_, M, R, rfl, rfl, s, hw, hc, hr⟩
