/-! L2: darn, knit, feed -/
theorem gset {l : List Nat} {k v j : Nat} (hk : k < l.length) : (l.set k v).getD j 0 = if j = k then v else l.getD j 0 := by
  rw [List.getD_eq_getElem?_getD, List.getElem?_set, List.getD_eq_getElem?_getD]
  by_cases e : j = k
  · subst e
    rw [if_pos rfl, if_pos hk, if_pos rfl]
    rfl
  · rw [if_neg (fun z => e z.symm), if_neg e]
theorem gmap {f : Nat → Nat} {n j : Nat} (hj : j < n) : ((List.range n).map f).getD j 0 = f j := by
  rw [List.getD_eq_getElem?_getD, List.getElem?_map, List.getElem?_range hj]
  rfl
/-- one's sock is another one -/
def sockS (σ : Sl) (l : List Nat) : Sl := mkS (kK σ) (kM σ) (kC σ) (kW σ) (kN σ) (kT σ) (kL σ) l
theorem wf_sock {σ : Sl} (h : wfS σ) {k v : Nat} (hk : k < (kS σ).length) (hv : v < 5) : wfS (sockS σ ((kS σ).set k v)) := by
  obtain ⟨w0, w1, w2, w3, w4, w5, w6, w7, w8⟩ := h
  have e : ((kS σ).set k v).length = (kS σ).length := List.length_set ..
  refine ⟨w0, w1, w2, w3, ?_, w5, w6, ?_, fun j hj => ?_⟩
  · show kN σ < ((kS σ).set k v).length
    rw [e]; exact w4
  · show ((kS σ).set k v).length ≤ 16
    rw [e]; exact w7
  · have hj : j < ((kS σ).set k v).length := hj
    show ((kS σ).set k v).getD j 0 < 5
    rw [gset hk]
    by_cases q : j = k
    · rw [if_pos q]; exact hv
    · rw [if_neg q]; exact w8 j (by rw [e] at hj; exact hj)
theorem RS.sock {M : Mem} {a k v : Nat} {σ : Sl} (h : RS M a σ) (hk : k < (kS σ).length) : RS (sAI M (a + 19) k (nI v)) a (sockS σ ((kS σ).set k v)) := by
  obtain ⟨r0, r1, r2, r3, r4, r5, r6, r7, r8⟩ := h
  have e : ((kS σ).set k v).length = (kS σ).length := List.length_set ..
  refine ⟨r0, r1, r2, r3, r4, r5, r6, ?_, fun j hj => ?_⟩
  · show FI M a 7 = nI ((kS σ).set k v).length
    rw [e]; exact r7
  · have hj : j < ((kS σ).set k v).length := hj
    show _ = nI (((kS σ).set k v).getD j 0)
    rw [gset hk]
    by_cases q : j = k
    · rw [if_pos q, q, AI_s]
    · rw [if_neg q, AI_n q]; exact r8 j (by rw [e] at hj; exact hj)
theorem RR.sock {R : Mem} {p k v : Nat} {σ : Sl} (h : RR R p σ) (hk : k < (kS σ).length) : RR (sAI R 104 (16 * p + k) (nI v)) p (sockS σ ((kS σ).set k v)) := by
  obtain ⟨r0, r1, r2, r3, r4, r5, r6, r7, r8⟩ := h
  have e : ((kS σ).set k v).length = (kS σ).length := List.length_set ..
  refine ⟨(AI_na (by decide)).trans r0, (AI_na (by decide)).trans r1, (AI_na (by decide)).trans r2, (AI_na (by decide)).trans r3, (AI_na (by decide)).trans r4, (AI_na (by decide)).trans r5, (AI_na (by decide)).trans r6, ?_, fun j hj => ?_⟩
  · show _ = nI ((kS σ).set k v).length
    rw [e]; exact (AI_na (by decide)).trans r7
  · have hj : j < ((kS σ).set k v).length := hj
    show _ = nI (((kS σ).set k v).getD j 0)
    rw [gset hk]
    by_cases q : j = k
    · rw [if_pos q, q, AI_s]
    · rw [if_neg q, AI_n (by omega)]; exact r8 j (by rw [e] at hj; exact hj)
theorem mend_c {M : Mem} {a k : Nat} (ha : kd a = 2) (hk : k < 16) (v : Int32) : f_X2_mend a (nI k) v M = some (sAI M (a + 19) k v) := by
  unfold f_X2_mend b_X2_mend_0
  rw [if_neg (nI_pos (by omega)), if_neg (show ¬ (16 : Int32) ≤ nI k from nI_ge (b := 16) hk (by decide)), gd_t (by rw [n_2_9 ha]; exact inb_nI hk (by decide)), nI_clamp (by omega)]
theorem st_darn {M R : Mem} (x1 x2 x3 : Int32) (h : Sim M R) : ∃ r M' R', f_X5_darn x1 x2 x3 M = some (r, M') ∧ f_X6_darn x1 x2 x3 R = some (r, R') ∧ Sim M' R' := by
  obtain ⟨s, hw, hc, hr⟩ := h
  have hc6 : dC (aV s) ≤ 6 := hw.1.1
  unfold f_X5_darn b_X5_darn_0 f_X6_darn b_X6_darn_0
  rcases one_b x1 hw hc hr with ⟨p, hp, rfl, e1, e2⟩ | ⟨e1, e2⟩
  · have ki := slx_kd (wi := 1) (q := p) (by decide) (by decide) (by omega)
    have hS := hc.1.2.2.2.2 p hp
    have hR := hr.1.2.2.2.2 p hp
    have hwf := hw.1.2.1 p hp
    obtain ⟨w0, w1, w2, w3, w4, w5, w6, w7, w8⟩ := id hwf
    have r7 : FI M (slx 1 p) 7 = nI (kS (dS (aV s) p)).length := hS.2.2.2.2.2.2.2.1
    have q7 : AI R 105 p = nI (kS (dS (aV s) p)).length := hR.2.2.2.2.2.2.2.1
    have q8 := hR.2.2.2.2.2.2.2.2
    have kp : (nI p).toNatClampNeg = p := nI_clamp (by omega)
    rw [e1, bind_some_, oc_some_, e2, bind_some_, if_pos rfl, gd_t (isK_t ki), r7, gdn (n := len 105) (show p < 6 by omega) (by decide), kp, q7, lk_1, pk_sub (show 1 ≤ (kS (dS (aV s) p)).length by omega)]
    rcases rg_b x2 (kS (dS (aV s) p)).length (by omega) with ⟨k, hk, rfl⟩ | hb
    · rw [cl_yes hk (by omega), show f_X6_in (nI k) 0 (nI ((kS (dS (aV s) p)).length - 1)) R = some true from in_yes (by omega) (by omega) R, bind_some_, if_pos rfl]
      rcases rg_b x3 5 (by decide) with ⟨v, hv, rfl⟩ | hb
      · rw [if_neg (nI_pos (show v < 2 ^ 31 by omega)), if_pos (show nI v < (5 : Int32) from nI_lt (b := 5) hv (by decide)), stitchAt_c hS ki w7 hk, bind_some_, mend_c ki (by omega), bind_some_, show f_X6_in (nI v) 0 4 R = some true from in_yes (n := 4) (by decide) (by omega) R, bind_some_, if_pos rfl, show (16 : Int32) * nI p + nI k = nI (16 * p + k) by rw [show (16 : Int32) * nI p = nI (16 * p) from pk_mul 16 p, nI_add], gdn (n := len 104) (show 16 * p + k < 96 by omega) (by decide), nI_clamp (by omega), q8 k hk]
        unfold b_X6_darn_52
        rw [show (16 : Int32) * nI p + nI k = nI (16 * p + k) by rw [show (16 : Int32) * nI p = nI (16 * p) from pk_mul 16 p, nI_add], gdn (n := len 104) (show 16 * p + k < 96 by omega) (by decide), nI_clamp (by omega)]
        exact ⟨_, _, _, rfl, rfl, setS s p _, wf_set hw (wf_sock hwf hk hv) rfl rfl, hc.set hw hp (fun b hb => ⟨fun _ => rfl, fun _ => rfl, AI_nf (fun q => hb (Or.inr q))⟩) (hS.sock hk), hr.set hw (Mp.sock R _ (by omega) (by omega)) (hR.sock hk)⟩
      · rw [show f_X6_in x3 0 4 R = some false from in_no (n := 4) (by decide) hb R, bind_some_, if_neg Bool.false_ne_true]
        refine ⟨-7, M, R, ?_, rfl, fin1 hw hc hr⟩
        by_cases q : x3 < 0
        · rw [if_pos q]
        · rw [if_neg q, if_neg (show ¬ x3 < (5 : Int32) from fun z => hb ⟨q, z⟩)]
    · rw [cl_no hb, show f_X6_in x2 0 (nI ((kS (dS (aV s) p)).length - 1)) R = some false from in_no (by omega) (by rw [show (kS (dS (aV s) p)).length - 1 + 1 = (kS (dS (aV s) p)).length by omega]; exact hb) R, bind_some_, if_neg Bool.false_ne_true]
      exact ⟨_, _, _, rfl, rfl, fin1 hw hc hr⟩
  · rw [e1, bind_some_, oc_none_, e2, bind_some_, if_neg Bool.false_ne_true]
    exact ⟨_, _, _, rfl, rfl, fin1 hw hc hr⟩
/-- the numbers of a sheet are stitches, from j on, m of them -/
def stB (u : Nat → Int32) : Nat → Nat → Bool
  | 0, _ => true
  | m + 1, j => decide (¬ u j < 0 ∧ u j < nI 5) && stB u m (j + 1)
theorem stB_all {u : Nat → Int32} : ∀ (m j : Nat), stB u m j = true → ∀ k, j ≤ k → k < j + m → ∃ v : Nat, v < 5 ∧ u k = nI v
  | 0, _, _, _, h1, h2 => by omega
  | m + 1, j, h, k, h1, h2 => by
    unfold stB at h
    rw [Bool.and_eq_true, decide_eq_true_eq] at h
    by_cases e : k = j
    · subst e
      rcases rg_b (u k) 5 (by decide) with z | z
      · exact z
      · exact absurd h.1 z
    · exact stB_all m (j + 1) h.2 k (by omega) (by omega)
theorem isSock_loop {N k z : Nat} {M : Mem} {u : Nat → Int32} (hk : k < 4) (hz : z ≤ 40) (h : FI M (74 + k) 1 = nI z) (hu : ∀ j, j < 40 → AI M (78 + k) j = u j) : ∀ (m fu j : Nat), m < fu → j + m = z → b_X1_isSock_21 N M (74 + k) fu (nI j) = some (stB u m j) := by
  intro m
  induction m with
  | zero =>
    intro fu j hf hj
    obtain ⟨fu, rfl⟩ : ∃ z, fu = z + 1 := ⟨fu - 1, by omega⟩
    rw [b_X1_isSock_21, h, if_pos (nI_le (by omega) (by omega))]
    rfl
  | succ m ih =>
    intro fu j hf hj
    obtain ⟨fu, rfl⟩ : ∃ z, fu = z + 1 := ⟨fu - 1, by omega⟩
    rw [b_X1_isSock_21, h, if_neg (nI_ge (by omega) (by omega)), read_c hk hz h hu (by omega), bind_some_, bind_some_, nI_1, ih fu (j + 1) (by omega) (by omega)]
    rw [show stB u (m + 1) j = (decide (¬ u j < 0 ∧ u j < nI 5) && stB u m (j + 1)) from rfl]
    by_cases q : u j < 0
    · rw [if_pos q, decide_eq_false (fun z => z.1 q)]; rfl
    · rw [if_neg q]
      by_cases q2 : u j < (5 : Int32)
      · rw [if_pos q2, decide_eq_true (show ¬ u j < 0 ∧ u j < nI 5 from ⟨q, q2⟩)]; rfl
      · rw [if_neg q2, decide_eq_false (show ¬ (¬ u j < 0 ∧ u j < nI 5) from fun z => q2 z.2)]; rfl
theorem in04 (x : Int32) (R : Mem) : f_X6_in x 0 4 R = some (decide (¬ x < 0 ∧ x < nI 5)) := by
  rcases rg_b x 5 (by decide) with ⟨v, hv, rfl⟩ | hb
  · rw [show f_X6_in (nI v) 0 4 R = some true from in_yes (n := 4) (by decide) (by omega) R, decide_eq_true ⟨nI_pos (by omega), nI_lt hv (by decide)⟩]
  · rw [show f_X6_in x 0 4 R = some false from in_no (n := 4) (by decide) hb R, decide_eq_false hb]
theorem knit44_f {N : Nat} {x1 x2 x3 x5 : Int32} {R : Mem} (fu : Nat) : b_X6_knit_44 N x1 x2 (fu + 1) x3 0 x5 R = some (-2, R) := by
  rw [b_X6_knit_44]
  unfold b_X6_knit_80
  rw [if_pos (show (0 : Int32) = 0 from rfl), if_pos (show (0 : Int32) = 0 from rfl), ite_self]
theorem knit44_r {N k z : Nat} {x2 : Int32} {R : Mem} {u : Nat → Int32} (hk : k < 4) (hz : z ≤ 40) (hu : ∀ j, j < 40 → AI R 113 (40 * k + j) = u j) : ∀ (m fu j : Nat), m + 1 < fu → j + m = z → b_X6_knit_44 N (nI k) x2 fu (nI z) 1 (nI j) R = if stB u m j = true then b_X6_knit_80 N (nI k) x2 (nI z) 1 R else some (-2, R) := by
  intro m
  induction m with
  | zero =>
    intro fu j hf hj
    obtain ⟨fu, rfl⟩ : ∃ z, fu = z + 1 := ⟨fu - 1, by omega⟩
    rw [b_X6_knit_44, if_pos (nI_le (by omega) (by omega)), if_pos (show stB u 0 j = true from rfl)]
  | succ m ih =>
    intro fu j hf hj
    obtain ⟨fu, rfl⟩ : ∃ z, fu = z + 1 := ⟨fu - 1, by omega⟩
    obtain ⟨fu, rfl⟩ : ∃ z, fu = z + 1 := ⟨fu - 1, by omega⟩
    rw [b_X6_knit_44, if_neg (nI_ge (by omega) (by omega)), if_neg (show ¬ (1 : Int32) = 0 by decide), show (40 : Int32) * nI k + nI j = nI (40 * k + j) by rw [show (40 : Int32) * nI k = nI (40 * k) from pk_mul 40 k, nI_add], gdn (n := len 113) (show 40 * k + j < 160 by omega) (by decide), nI_clamp (by omega), hu j (by omega), in04, bind_some_, nI_1]
    rw [show stB u (m + 1) j = (decide (¬ u j < 0 ∧ u j < nI 5) && stB u m (j + 1)) from rfl]
    by_cases q : ¬ u j < 0 ∧ u j < nI 5
    · rw [decide_eq_true q, show b2i true = 1 from rfl, ih (fu + 1) (j + 1) (by omega) (by omega)]
      rfl
    · rw [decide_eq_false q, show b2i false = 0 from rfl, knit44_f]
      rfl
def knitS (σ : Sl) (z : Nat) (u : Nat → Int32) : Sl := mkS (kK σ) (kM σ) (kC σ) (kW σ) 0 (kT σ) (kL σ) ((List.range z).map fun k => (u k).toNatClampNeg)
theorem wear_loop {N k z a : Nat} {u : Nat → Int32} (hk : k < 4) (hz : z ≤ 16) (ha : kd a = 2) (hak : a + 19 ≠ 78 + k) : ∀ (m fu j : Nat) (M : Mem), m < fu → j + m = z → FI M a 7 = nI z → FI M (74 + k) 1 = nI z → (∀ j, j < 40 → AI M (78 + k) j = u j) → (∀ i, i < j → AI M (a + 19) i = u i) →
    ∃ M', b_X2_wear_15 N a (74 + k) fu (nI j) M = some M' ∧ FI M' = FI M ∧ FJ M' = FJ M ∧ (∀ b, b ≠ a + 19 → AI M' b = AI M b) ∧ ∀ i, i < z → AI M' (a + 19) i = u i := by
  intro m
  induction m with
  | zero =>
    intro fu j M hf hj h7 h1 hu hd
    obtain ⟨fu, rfl⟩ : ∃ z, fu = z + 1 := ⟨fu - 1, by omega⟩
    rw [b_X2_wear_15, h7, if_pos (nI_le (by omega) (by omega))]
    exact ⟨M, rfl, rfl, rfl, fun _ _ => rfl, fun i hi => hd i (by omega)⟩
  | succ m ih =>
    intro fu j M hf hj h7 h1 hu hd
    obtain ⟨fu, rfl⟩ : ∃ z, fu = z + 1 := ⟨fu - 1, by omega⟩
    rw [b_X2_wear_15, h7, if_neg (nI_ge (by omega) (by omega)), read_c hk (by omega) h1 hu (by omega), bind_some_, mend_c ha (by omega), bind_some_, nI_1]
    obtain ⟨M', a1, a2, a3, a4, a5⟩ := ih fu (j + 1) (sAI M (a + 19) j (u j)) (by omega) (by omega) h7 h1 (fun i hi => by rw [AI_na (by omega)]; exact hu i hi) (fun i hi => by
      by_cases e : i = j
      · rw [e, AI_s]
      · rw [AI_n e]; exact hd i (by omega))
    exact ⟨M', a1, a2, a3, fun b hb => (a4 b hb).trans (AI_nf hb), a5⟩
theorem knit102_r {N k p z : Nat} {u : Nat → Int32} (hk : k < 4) (hp : p < 6) (hz : z ≤ 16) : ∀ (m fu j : Nat) (R : Mem), m < fu → j + m = z → (∀ j, j < 40 → AI R 113 (40 * k + j) = u j) → (∀ i, i < j → AI R 104 (16 * p + i) = u i) →
    ∃ R', b_X6_knit_102 N (nI k) (nI p) fu (nI z) (nI j) R = b_X6_knit_145 N (nI k) (nI p) (nI z) R' ∧ Mp R R' p ∧ (∀ i, i < z → AI R' 104 (16 * p + i) = u i) ∧ (∀ b, b ≠ 104 → AI R' b = AI R b) := by
  intro m
  induction m with
  | zero =>
    intro fu j R hf hj hu hd
    obtain ⟨fu, rfl⟩ : ∃ z, fu = z + 1 := ⟨fu - 1, by omega⟩
    rw [b_X6_knit_102, if_pos (nI_le (by omega) (by omega))]
    exact ⟨R, rfl, Mp.rf _ _, fun i hi => hd i (by omega), fun _ _ => rfl⟩
  | succ m ih =>
    intro fu j R hf hj hu hd
    obtain ⟨fu, rfl⟩ : ∃ z, fu = z + 1 := ⟨fu - 1, by omega⟩
    rw [b_X6_knit_102, if_neg (nI_ge (by omega) (by omega)), if_neg (show ¬ (16 : Int32) ≤ nI j from nI_ge (b := 16) (by omega) (by decide)), show (40 : Int32) * nI k + nI j = nI (40 * k + j) by rw [show (40 : Int32) * nI k = nI (40 * k) from pk_mul 40 k, nI_add], show (16 : Int32) * nI p + nI j = nI (16 * p + j) by rw [show (16 : Int32) * nI p = nI (16 * p) from pk_mul 16 p, nI_add], gdn (n := len 113) (show 40 * k + j < 160 by omega) (by decide), gdn (n := len 104) (show 16 * p + j < 96 by omega) (by decide), nI_clamp (show 40 * k + j < 2 ^ 31 by omega), nI_clamp (show 16 * p + j < 2 ^ 31 by omega), hu j (by omega)]
    unfold b_X6_knit_139
    rw [nI_1]
    obtain ⟨R', a1, a2, a3, a4⟩ := ih fu (j + 1) (sAI R 104 (16 * p + j) (u j)) (by omega) (by omega) (fun i hi => by rw [AI_na (by decide)]; exact hu i hi) (fun i hi => by
      by_cases e : i = j
      · rw [e, AI_s]
      · rw [AI_n (by omega)]; exact hd i (by omega))
    exact ⟨R', a1, (Mp.sock R _ (by omega) (by omega)).tr a2, a3, fun b hb => (a4 b hb).trans (AI_nf hb)⟩
theorem wf_knit {σ : Sl} {z : Nat} {u : Nat → Int32} (h : wfS σ) (h1 : 1 ≤ z) (h16 : z ≤ 16) (hu : ∀ k, k < z → ∃ v : Nat, v < 5 ∧ u k = nI v) : wfS (knitS σ z u) := by
  obtain ⟨w0, w1, w2, w3, w4, w5, w6, w7, w8⟩ := h
  have e : ((List.range z).map fun k => (u k).toNatClampNeg).length = z := by rw [List.length_map, List.length_range]
  refine ⟨w0, w1, w2, w3, ?_, w5, w6, ?_, fun j hj => ?_⟩
  · show 0 < ((List.range z).map fun k => (u k).toNatClampNeg).length
    rw [e]; exact h1
  · show ((List.range z).map fun k => (u k).toNatClampNeg).length ≤ 16
    rw [e]; exact h16
  · have hj : j < ((List.range z).map fun k => (u k).toNatClampNeg).length := hj
    rw [e] at hj
    show ((List.range z).map fun k => (u k).toNatClampNeg).getD j 0 < 5
    rw [gmap hj]
    obtain ⟨v, hv, e2⟩ := hu j hj
    rw [e2, nI_clamp (by omega)]
    exact hv
theorem st_knit {N : Nat} {M R : Mem} (hN : 160 < N) (x1 x2 : Int32) (h : Sim M R) : ∃ r M' R', f_X5_knit N x1 x2 M = some (r, M') ∧ f_X6_knit N x1 x2 R = some (r, R') ∧ Sim M' R' := by
  obtain ⟨s, hw, hc, hr⟩ := h
  have hc6 : dC (aV s) ≤ 6 := hw.1.1
  unfold f_X5_knit b_X5_knit_0 f_X6_knit b_X6_knit_0
  rcases sheet_b x1 M R with ⟨k, hk, rfl, e1, e2⟩ | ⟨e1, e2⟩
  · obtain ⟨c0, c1, c2⟩ := hc.2.2.2.2.2.2.2 k hk
    obtain ⟨d0, d1, d2⟩ := hr.2.2.2.2.2.2.2.1 k hk
    obtain ⟨u0, u1, u2⟩ := hw.2.2.2.2 k hk
    have kk : (nI k).toNatClampNeg = k := nI_clamp (by omega)
    rw [sref_c hk, bind_some_, c0, e2, bind_some_, if_pos rfl, kk, d0, gdn (n := len 111) (show k < 4 by omega) (by decide), ar73]
    by_cases hm : aO s k = -1
    · rw [if_pos hm, if_pos hm, if_neg (show ¬ (-11 : Int32) = 0 by decide)]
      exact ⟨_, _, _, rfl, rfl, fin1 hw hc hr⟩
    · rw [if_neg hm, if_neg hm, if_pos (show (0 : Int32) = 0 from rfl), gd_t (i73 hk), gd_t (isK_t (kd1 hk)), gdn (n := len 112) (show k < 4 by omega) (by decide), d1, show f_X6_in (nI (aZ s k)) 1 16 R = some (decide (1 ≤ aZ s k ∧ aZ s k ≤ 16)) from in_n (by omega) (by decide) (by decide) R, bind_some_]
      unfold f_X1_isSock b_X1_isSock_0
      rw [c1]
      by_cases hz : 1 ≤ aZ s k ∧ aZ s k ≤ 16
      · rw [if_neg (show ¬ nI (aZ s k) < (1 : Int32) from nI_nlt (b := 1) hz.1 (by omega)), if_pos (show nI (aZ s k) ≤ (16 : Int32) from nI_le (b := 16) hz.2 (by decide)), show ((0 : Int32)) = nI 0 from rfl, isSock_loop hk u1 c1 c2 (aZ s k) N 0 (by omega) (by omega), bind_some_, decide_eq_true hz, show b2i true = 1 from rfl, knit44_r hk u1 d2 (aZ s k) N 0 (by omega) (by omega)]
        by_cases hb : stB (aU s k) (aZ s k) 0 = true
        · rw [if_pos hb, if_pos hb]
          unfold b_X6_knit_80
          rw [if_neg (show ¬ (1 : Int32) = 0 by decide)]
          rcases one_b x2 hw hc hr with ⟨p, hp, rfl, f1, f2⟩ | ⟨f1, f2⟩
          · have ki := slx_kd (wi := 1) (q := p) (by decide) (by decide) (by omega)
            have si := slx_eq (wi := 1) (by decide) (by decide) p
            have hS := hc.1.2.2.2.2 p hp
            have hR := hr.1.2.2.2.2 p hp
            have hwf := hw.1.2.1 p hp
            have hst := stB_all _ _ hb
            have hst' : ∀ j, j < aZ s k → nI ((aU s k j).toNatClampNeg) = aU s k j := fun j hj => by
              obtain ⟨v, hv, e⟩ := hst j (by omega) (by omega)
              rw [e, nI_clamp (by omega)]
            have hlen : ((List.range (aZ s k)).map fun j => (aU s k j).toNatClampNeg).length = aZ s k := by rw [List.length_map, List.length_range]
            rw [f1, bind_some_, oc_some_, gd_t (isK_t ki), f2, bind_some_, if_pos rfl]
            unfold f_X2_wear b_X2_wear_0 b_X2_wear_8 b_X2_wear_13
            rw [c1]
            obtain ⟨M', a1, a2, a3, a4, a5⟩ := wear_loop (N := N) (u := aU s k) hk hz.2 ki (by omega) (aZ s k) N 0 (sFI (sFI M (slx 1 p) 7 (nI (aZ s k))) (slx 1 p) 4 0) (by omega) (by omega) ((FI_n (by decide)).trans FI_s) (by rw [FI_sFI, if_neg (fun q => by omega), FI_sFI, if_neg (fun q => by omega)]; exact c1) (fun j hj => c2 j hj) (fun i hi => by omega)
            obtain ⟨R', b1, b2, b3, b4⟩ := knit102_r (N := N) (u := aU s k) hk (show p < 6 by omega) hz.2 (aZ s k) N 0 R (by omega) (by omega) d2 (fun i hi => by omega)
            rw [show ((0 : Int32)) = nI 0 from rfl] at a1
            rw [show ((0 : Int32)) = nI 0 from rfl, a1, bind_some_, b1]
            unfold b_X6_knit_145 b_X6_knit_152
            rw [gdn (n := len 105) (show p < 6 by omega) (by decide), show (5 : Int32) * nI p + 2 = nI (5 * p + 2) by rw [show (5 : Int32) * nI p = nI (5 * p) from pk_mul 5 p]; exact nI_add _ 2, gdn (n := len 103) (show 5 * p + 2 < 30 by omega) (by decide), nI_clamp (show p < 2 ^ 31 by omega), nI_clamp (show 5 * p + 2 < 2 ^ 31 by omega)]
            have g7 : FI M' (slx 1 p) 7 = nI (aZ s k) := by rw [a2, FI_n (by decide), FI_s]
            rw [g7]
            refine ⟨_, _, _, rfl, rfl, setS s p (knitS (dS (aV s) p) (aZ s k) (aU s k)), wf_set hw (wf_knit hwf hz.1 hz.2 (fun j hj => hst j (by omega) (by omega))) rfl rfl, hc.set hw hp (fun b hb => ⟨fun j => ?_, fun j => ?_, ?_⟩) ?_, hr.set hw ((b2.tr (Mp.size _ _ _)).tr (Mp.row _ _ (by omega) (by omega))) ?_⟩
            · rw [a2, FI_sFI, if_neg (fun q => hb (Or.inl q.1)), FI_sFI, if_neg (fun q => hb (Or.inl q.1))]
            · rw [a3]; rfl
            · rw [a4 b (fun q => hb (Or.inr q))]; rfl
            · obtain ⟨r0, r1, r2, r3, r4, r5, r6, r7, r8⟩ := hS
              refine ⟨?_, ?_, ?_, ?_, ?_, ?_, ?_, ?_, fun j hj => ?_⟩
              · rw [a2, FI_n (by decide), FI_n (by decide)]; exact r0
              · rw [a2, FI_n (by decide), FI_n (by decide)]; exact r1
              · rw [a2, FI_n (by decide), FI_n (by decide)]; exact r2
              · rw [a2, FI_n (by decide), FI_n (by decide)]; exact r3
              · rw [a2, FI_s]; rfl
              · rw [a2, FI_n (by decide), FI_n (by decide)]; exact r5
              · rw [a2, FI_n (by decide), FI_n (by decide)]; exact r6
              · show _ = nI ((List.range (aZ s k)).map fun j => (aU s k j).toNatClampNeg).length
                rw [hlen]; exact g7
              · have hj : j < ((List.range (aZ s k)).map fun j => (aU s k j).toNatClampNeg).length := hj
                rw [hlen] at hj
                show _ = nI (((List.range (aZ s k)).map fun j => (aU s k j).toNatClampNeg).getD j 0)
                rw [gmap hj, hst' j hj]; exact a5 j hj
            · obtain ⟨r0, r1, r2, r3, r4, r5, r6, r7, r8⟩ := hR
              refine ⟨?_, ?_, ?_, ?_, ?_, ?_, ?_, ?_, fun j hj => ?_⟩
              · rw [AI_na (by decide), AI_na (by decide), b4 101 (by decide)]; exact r0
              · rw [AI_na (by decide), AI_na (by decide), b4 102 (by decide)]; exact r1
              · rw [AI_n (by omega), AI_na (by decide), b4 103 (by decide)]; exact r2
              · rw [AI_n (by omega), AI_na (by decide), b4 103 (by decide)]; exact r3
              · rw [AI_s]; rfl
              · rw [AI_n (by omega), AI_na (by decide), b4 103 (by decide)]; exact r5
              · rw [AI_n (by omega), AI_na (by decide), b4 103 (by decide)]; exact r6
              · show _ = nI ((List.range (aZ s k)).map fun j => (aU s k j).toNatClampNeg).length
                rw [hlen, AI_na (by decide), AI_s]
              · have hj : j < ((List.range (aZ s k)).map fun j => (aU s k j).toNatClampNeg).length := hj
                rw [hlen] at hj
                show _ = nI (((List.range (aZ s k)).map fun j => (aU s k j).toNatClampNeg).getD j 0)
                rw [gmap hj, hst' j hj, AI_na (by decide), AI_na (by decide)]; exact b3 j hj
          · rw [f1, bind_some_, oc_none_, f2, bind_some_, if_neg Bool.false_ne_true]
            exact ⟨_, _, _, rfl, rfl, fin1 hw hc hr⟩
        · rw [if_neg hb, if_neg hb]
          exact ⟨_, _, _, rfl, rfl, fin1 hw hc hr⟩
      · rw [decide_eq_false hz, show b2i false = 0 from rfl]
        obtain ⟨fu, rfl⟩ : ∃ z, N = z + 1 := ⟨N - 1, by omega⟩
        rw [knit44_f]
        refine ⟨-2, M, R, ?_, rfl, fin1 hw hc hr⟩
        by_cases q : aZ s k < 1
        · rw [if_pos (show nI (aZ s k) < (1 : Int32) from nI_lt (b := 1) q (by decide)), bind_some_, if_neg Bool.false_ne_true]
        · rw [if_neg (show ¬ nI (aZ s k) < (1 : Int32) from nI_nlt (b := 1) (by omega) (by omega)), if_neg (show ¬ nI (aZ s k) ≤ (16 : Int32) from nI_ge (a := 16) (by omega) (by omega)), bind_some_, if_neg Bool.false_ne_true]
  · rw [sref_no e1, bind_some_, if_neg (show ¬ (-2 : Int32) = 0 by decide), e2, bind_some_, if_neg Bool.false_ne_true]
    exact ⟨_, _, _, rfl, rfl, fin1 hw hc hr⟩
