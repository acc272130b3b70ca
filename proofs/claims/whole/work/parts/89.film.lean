/-! L2: film -/
theorem withU_withU (s : St) (k : Nat) (o o' : Int32) (z z' : Nat) (u u' : Nat → Int32) : withU (withU s k o z u) k o' z' u' = withU s k o' z' u' := by
  have e1 : (fun j => if j = k then o' else (fun j => if j = k then o else aO s j) j) = fun j => if j = k then o' else aO s j := by
    funext j
    by_cases h : j = k
    · rw [if_pos h, if_pos h]
    · rw [if_neg h, if_neg h]
      show (if j = k then o else aO s j) = _
      rw [if_neg h]
  have e2 : (fun j => if j = k then z' else (fun j => if j = k then z else aZ s j) j) = fun j => if j = k then z' else aZ s j := by
    funext j
    by_cases h : j = k
    · rw [if_pos h, if_pos h]
    · rw [if_neg h, if_neg h]
      show (if j = k then z else aZ s j) = _
      rw [if_neg h]
  have e3 : (fun j => if j = k then u' else (fun j => if j = k then u else aU s j) j) = fun j => if j = k then u' else aU s j := by
    funext j
    by_cases h : j = k
    · rw [if_pos h, if_pos h]
    · rw [if_neg h, if_neg h]
      show (if j = k then u else aU s j) = _
      rw [if_neg h]
  show (s.1, s.2.1, s.2.2.1, s.2.2.2.1, (fun j => if j = k then o' else (fun j => if j = k then o else aO s j) j), (fun j => if j = k then z' else (fun j => if j = k then z else aZ s j) j), fun j => if j = k then u' else (fun j => if j = k then u else aU s j) j) = (s.1, s.2.1, s.2.2.1, s.2.2.2.1, (fun j => if j = k then o' else aO s j), (fun j => if j = k then z' else aZ s j), fun j => if j = k then u' else aU s j)
  rw [e1, e2, e3]
theorem itN_0 (x : Txt) (w : Int64) (night : Nat) (σ : Sl) : (itN x w 0 night σ).1 = σ := rfl
theorem itN_1 (x : Txt) (w : Int64) (k night : Nat) (σ : Sl) : (itN x w (k + 1) night σ).1 = (itN x w k (night + 1) (walkS x night w σ).2.1).1 := rfl
theorem cell_b8 : ∀ c, c < 64 → (nI c).toInt8.toInt32 = nI c := by decide +kernel
theorem film_c {N k n : Nat} {s : St} {x1 x2 : Int32} (hN : 160 < N) (hw : wfSt s) (hk : k < 4) (hn : n ≤ 20) : ∀ (m fu j : Nat) (u : Nat → Int32) (M : Mem) (σ : Sl), m < fu → j + m = n → (∀ i, j ≤ i → u i = 0) → RcS M (withU s k 0 n u) → RS M 4 σ → wfS σ →
    ∃ M', b_X5_film_52 N x1 x2 (nI n) fu (74 + k) (nI j) M = some (nI n, M') ∧ RcS M' (withU s k 0 n (fun i => if i < j then u i else if i < n then nI (kC (itN (aT s (dL (aV s))) (dW (aV s)) (i - j + 1) (dN (aV s) + j) σ).1) else 0)) := by
  intro m
  induction m with
  | zero =>
    intro fu j u M σ hf hj hu hc hS hσ
    obtain ⟨fu, rfl⟩ : ∃ z, fu = z + 1 := ⟨fu - 1, by omega⟩
    have : j = n := by omega
    subst this
    rw [b_X5_film_52, if_pos (nI_le (by omega) (by omega))]
    have e : (fun i => if i < j then u i else if i < j then nI (kC (itN (aT s (dL (aV s))) (dW (aV s)) (i - j + 1) (dN (aV s) + j) σ).1) else 0) = u := by
      funext i
      by_cases h : i < j
      · rw [if_pos h]
      · rw [if_neg h, if_neg h, hu i (by omega)]
    rw [e]
    exact ⟨M, rfl, hc⟩
  | succ m ih =>
    intro fu j u M σ hf hj hu hc hS hσ
    obtain ⟨fu, rfl⟩ : ∃ z, fu = z + 1 := ⟨fu - 1, by omega⟩
    have hwU : wfSt (withU s k 0 n u) := wf_withU hw (Or.inr (Or.inl rfl)) (by omega) (fun z => absurd z (by decide))
    obtain ⟨M1, e1, s1, h1⟩ := walk_s (N := N) (k := j) hN hwU hc hS hσ hwU.1.2.2.2 (by omega)
    have e1' : f_X2_walk N 4 (46 + dL (aV s)) (FI M 1 1 + nI j) (FJ M 1 0) M = some (nI (walkS (aT s (dL (aV s))) (dN (aV s) + j) (dW (aV s)) σ).1, M1) := e1
    have s1' : RS M1 4 (walkS (aT s (dL (aV s))) (dN (aV s) + j) (dW (aV s)) σ).2.1 := s1
    obtain ⟨c0, c1, c2⟩ := h1.2.2.2.2.2.2.2 k hk
    have c0' : FI M1 (74 + k) 0 = 0 := c0.trans (if_pos rfl)
    have c1' : FI M1 (74 + k) 1 = nI n := c1.trans (by show nI (if k = k then n else aZ s k) = _; rw [if_pos rfl])
    have c2' : ∀ i, i < 40 → AI M1 (78 + k) i = u i := fun i hi => (c2 i hi).trans (by show (if k = k then u else aU s k) i = _; rw [if_pos rfl])
    have h64 := (wf_walk (x := aT s (dL (aV s))) (night := dN (aV s) + j) (w := dW (aV s)) hσ).2.2.1
    rw [b_X5_film_52, if_neg (nI_ge (by omega) (by omega)), show f_X5_theLaw M = some (46 + dL (aV s)) from law_s (s := withU s k 0 n u) hwU hc, bind_some_, gd_t (isK_t (kdt hw hw.1.2.2.2)), e1', bd2_s, show FI M1 4 2 = _ from s1'.2.2.1]
    unfold f_X1_write b_X1_write_0 b_X1_write_39
    rw [has_c (show n ≤ 40 by omega) c1' (by omega), bind_some_, decide_eq_true (show j < n by omega), if_pos rfl, c0', if_pos (show (0 : Int32) = 0 from rfl), cell_b8 _ h64, gd_t (by rw [n_1_2 (kd1 hk)]; exact inb_nI (by omega) (by decide)), bind_some_, nI_clamp (show j < 2 ^ 31 by omega), nI_1]
    generalize hv : nI (kC (walkS (aT s (dL (aV s))) (dN (aV s) + j) (dW (aV s)) σ).2.1) = v
    have h2 : RcS (sAI M1 (74 + k + 4) j v) (withU (withU s k 0 n u) k 0 n (fun i => if i = j then v else u i)) := h1.sh hwU hk (fun b hb => ⟨fun _ => rfl, fun _ => rfl, AI_nf (fun q => hb (Or.inr (Or.inl (by omega))))⟩) c0' c1' (fun i hi => by
      rw [show 74 + k + 4 = 78 + k by omega]
      by_cases e : i = j
      · rw [if_pos e, e, AI_s]
      · rw [if_neg e, AI_n e]; exact c2' i hi)
    rw [withU_withU] at h2
    obtain ⟨M', a1, a2⟩ := ih fu (j + 1) (fun i => if i = j then v else u i) (sAI M1 (74 + k + 4) j v) (walkS (aT s (dL (aV s))) (dN (aV s) + j) (dW (aV s)) σ).2.1 (by omega) (by omega) (fun i hi => by
      show (if i = j then v else u i) = 0
      rw [if_neg (by omega), hu i (by omega)]) h2 (s1'.mx (P := fun b => b = 74 + k + 4) (fun b hb => ⟨fun _ => rfl, fun _ => rfl, AI_nf hb⟩) (by omega) (by omega)) (wf_walk hσ)
    refine ⟨M', a1, ?_⟩
    have e : (fun i => if i < j + 1 then (fun i => if i = j then v else u i) i else if i < n then nI (kC (itN (aT s (dL (aV s))) (dW (aV s)) (i - (j + 1) + 1) (dN (aV s) + (j + 1)) (walkS (aT s (dL (aV s))) (dN (aV s) + j) (dW (aV s)) σ).2.1).1) else 0) = (fun i => if i < j then u i else if i < n then nI (kC (itN (aT s (dL (aV s))) (dW (aV s)) (i - j + 1) (dN (aV s) + j) σ).1) else 0) := by
      funext i
      by_cases h1 : i < j
      · rw [if_pos (by omega), if_pos h1]
        show (if i = j then v else u i) = _
        rw [if_neg (by omega)]
      · rw [if_neg h1]
        by_cases h2 : i = j
        · rw [if_pos (by omega), if_pos (by omega)]
          show (if i = j then v else u i) = _
          rw [if_pos h2, ← hv, h2, show j - j + 1 = 0 + 1 by omega, itN_1, itN_0]
        · rw [if_neg (show ¬ i < j + 1 by omega)]
          by_cases h3 : i < n
          · rw [if_pos h3, if_pos h3, show i - j + 1 = (i - (j + 1) + 1) + 1 by omega, itN_1 _ _ (i - (j + 1) + 1), show dN (aV s) + (j + 1) = dN (aV s) + j + 1 from rfl]
          · rw [if_neg h3, if_neg h3]
    rw [e] at a2
    exact a2
/-- R' is R but for a thought, and sheet k's numbers -/
def Mf (R R' : Mem) (k : Nat) : Prop := (∀ j, j ≠ 34 → j ≠ 7 → j ≠ 36 → FI R' 100 j = FI R 100 j) ∧ (∀ j, FJ R' 100 j = FJ R 100 j) ∧ (∀ b, b ≠ 103 → b ≠ 113 → b ≠ 117 → b ≠ 118 → AI R' b = AI R b) ∧ ∀ q, q < 40 * k ∨ 40 * k + 40 ≤ q → AI R' 113 q = AI R 113 q
theorem Mf.rf (R : Mem) (k : Nat) : Mf R R k := ⟨fun _ _ _ _ => rfl, fun _ => rfl, fun _ _ _ _ _ => rfl, fun _ _ => rfl⟩
theorem Mf.tr {R R1 R2 : Mem} {k : Nat} (h : Mf R R1 k) (g : Mf R1 R2 k) : Mf R R2 k := ⟨fun j a b c => (g.1 j a b c).trans (h.1 j a b c), fun j => (g.2.1 j).trans (h.2.1 j), fun b h1 h2 h3 h4 => (g.2.2.1 b h1 h2 h3 h4).trans (h.2.2.1 b h1 h2 h3 h4), fun q hq => (g.2.2.2 q hq).trans (h.2.2.2 q hq)⟩
theorem Mf.num (R : Mem) {k j : Nat} (v : Int32) (h1 : 40 * k ≤ j) (h2 : j < 40 * k + 40) : Mf R (sAI R 113 j v) k := ⟨fun _ _ _ _ => rfl, fun _ => rfl, fun b _ hb _ _ => AI_nf hb, fun q hq => AI_n (by omega)⟩
theorem Mf.mn {R R' : Mem} {n : Nat} (h : Mn R R' n) (k : Nat) : Mf R R' k := ⟨fun j h1 h2 _ => h.1 j h1 h2, h.2.1, fun b h1 _ h3 h4 => h.2.2.1 b h1 h3 h4, fun q _ => by rw [h.2.2.1 113 (by decide) (by decide) (by decide)]⟩
theorem WR.n113 {R : Mem} {cnt night law j : Nat} {σf : Nat → Sl} {w : Int64} (h : WR R cnt σf w night law) (v : Int32) : WR (sAI R 113 j v) cnt σf w night law := by
  obtain ⟨k0, k1, k2, k3, k4⟩ := h
  refine ⟨k0, k1, k2, k3, fun q hq => ?_⟩
  have := k4 q hq
  unfold RR at this ⊢
  rw [AI_nf (a := 113) (b := 101) (by decide), AI_nf (a := 113) (b := 102) (by decide), AI_nf (a := 113) (b := 103) (by decide), AI_nf (a := 113) (b := 104) (by decide), AI_nf (a := 113) (b := 105) (by decide)]
  exact this
theorem TR.n113 {R : Mem} {tx j : Nat} {tf : Nat → Txt} (h : TR R tx tf) (v : Int32) : TR (sAI R 113 j v) tx tf := fun i hi => by
  have := h i hi
  unfold RTr at this ⊢
  rw [AI_nf (a := 113) (b := 107) (by decide), AI_nf (a := 113) (b := 108) (by decide)]
  exact this
theorem film_r {N k p n cnt law tx : Nat} {w : Int64} {tf : Nat → Txt} (hN : 160 < N) (hc : cnt ≤ 6) (hp : p < cnt) (hk : k < 4) (hn : n ≤ 20) (hl : law < tx) (htx : tx ≤ 6) (hxf : ∀ i, i < tx → wfT (tf i)) : ∀ (m fu j night : Nat) (R : Mem) (σf : Nat → Sl), m < fu → j + m = 40 → night + m < 10000 → (∀ q, q < cnt → wfS (σf q)) → TR R tx tf → WR R cnt σf w night law →
    ∃ R', b_X6_film_57 N (nI k) (nI p) (nI n) fu (nI j) R = ((f_X6_lays N R').bind fun M114 => some (nI n, M114)) ∧ Mf R R' k ∧ (∀ i, i < j → AI R' 113 (40 * k + i) = AI R 113 (40 * k + i)) ∧ ∀ i, j ≤ i → i < 40 → AI R' 113 (40 * k + i) = if i < n then nI (kC (itN (tf law) w (i - j + 1) night (σf p)).1) else 0 := by
  intro m
  induction m with
  | zero =>
    intro fu j night R σf hf hj hni hwf hT hW
    obtain ⟨fu, rfl⟩ : ∃ z, fu = z + 1 := ⟨fu - 1, by omega⟩
    have : j = 40 := by omega
    subst this
    rw [b_X6_film_57, if_pos (show (40 : Int32) ≤ nI 40 by decide)]
    exact ⟨R, rfl, Mf.rf R k, fun _ _ => rfl, fun i h1 h2 => by omega⟩
  | succ m ih =>
    intro fu j night R σf hf hj hni hwf hT hW
    obtain ⟨fu, rfl⟩ : ∃ z, fu = z + 1 := ⟨fu - 1, by omega⟩
    have x40 : (40 : Int32) * nI k + nI j = nI (40 * k + j) := by rw [show (40 : Int32) * nI k = nI (40 * k) from pk_mul 40 k, nI_add]
    rw [b_X6_film_57, if_neg (show ¬ (40 : Int32) ≤ nI j from nI_ge (b := 40) (by omega) (by decide)), x40, gdn (n := len 113) (show 40 * k + j < 160 by omega) (by decide), nI_clamp (show 40 * k + j < 2 ^ 31 by omega)]
    unfold b_X6_film_77 b_X6_film_107
    have f1 := Mf.num R (k := k) (j := 40 * k + j) 0 (by omega) (by omega)
    by_cases hjn : j < n
    · obtain ⟨R1, e1, W1, m1, g1, -⟩ := night_w (N := N) hN hc hl htx hxf (show night < 100000 by omega) hwf (hT.n113 (j := 40 * k + j) 0) (hW.n113 (j := 40 * k + j) 0)
      rw [if_neg (nI_ge (by omega) (by omega)), e1, bind_some_, show (5 : Int32) * nI p = nI (5 * p) from pk_mul 5 p, gdn (n := len 103) (show 5 * p < 30 by omega) (by decide), x40, gdn (n := len 113) (show 40 * k + j < 160 by omega) (by decide), nI_clamp (show 40 * k + j < 2 ^ 31 by omega), nI_clamp (show 5 * p < 2 ^ 31 by omega), show AI R1 103 (5 * p) = _ from (W1.2.2.2.2 p hp).2.2.1, nI_1]
      obtain ⟨R', a1, a2, a3, a4⟩ := ih fu (j + 1) (night + 1) (sAI R1 113 (40 * k + j) (nI (kC (walkS (tf law) night w (σf p)).2.1))) (fun q => (walkS (tf law) night w (σf q)).2.1) (by omega) (by omega) (by omega) (fun q hq => wf_walk (hwf q hq)) (((hT.n113 (j := 40 * k + j) 0).mt (Mt.mn m1)).n113 _) (W1.n113 _)
      have e113 : AI R1 113 = AI (sAI R 113 (40 * k + j) 0) 113 := m1.2.2.1 113 (by decide) (by decide) (by decide)
      refine ⟨R', a1, ((f1.tr (Mf.mn m1 k)).tr (Mf.num R1 _ (by omega) (by omega))).tr a2, fun i hi => ?_, fun i h1 h2 => ?_⟩
      · rw [a3 i (by omega), AI_n (by omega), e113, AI_n (by omega)]
      · by_cases e : i = j
        · rw [e, a3 j (by omega), AI_s, if_pos hjn, show j - j + 1 = 0 + 1 by omega, itN_1, itN_0]
        · rw [a4 i (by omega) h2]
          by_cases h3 : i < n
          · rw [if_pos h3, if_pos h3, show i - j + 1 = (i - (j + 1) + 1) + 1 by omega, itN_1 _ _ (i - (j + 1) + 1)]
          · rw [if_neg h3, if_neg h3]
    · rw [if_pos (nI_le (by omega) (by omega)), nI_1]
      obtain ⟨R', a1, a2, a3, a4⟩ := ih fu (j + 1) night (sAI R 113 (40 * k + j) 0) σf (by omega) (by omega) (by omega) hwf (hT.n113 _) (hW.n113 _)
      refine ⟨R', a1, f1.tr a2, fun i hi => ?_, fun i h1 h2 => ?_⟩
      · rw [a3 i (by omega), AI_n (by omega)]
      · by_cases e : i = j
        · rw [e, a3 j (by omega), AI_s, if_neg hjn]
        · rw [a4 i (by omega) h2, if_neg (by omega), if_neg (by omega)]
theorem st_film {N : Nat} {M R : Mem} (hN : 160 < N) (x1 x2 x3 : Int32) (h : Sim M R) : ∃ r M' R', f_X5_film N x1 x2 x3 M = some (r, M') ∧ f_X6_film N x1 x2 x3 R = some (r, R') ∧ Sim M' R' := by
  obtain ⟨s, hw, hc, hr⟩ := h
  have hc6 : dC (aV s) ≤ 6 := hw.1.1
  have hn9 : dN (aV s) ≤ 999 := hw.1.2.2.1
  have bad : Sim M R := ⟨s, hw, hc, hr⟩
  unfold f_X5_film b_X5_film_0 f_X6_film b_X6_film_0
  rcases sheet_b x1 M R with ⟨k, hk, rfl, e1, e2⟩ | ⟨e1, e2⟩
  rotate_left
  · rw [e1, e2, bind_some_, bind_some_, if_neg Bool.false_ne_true, if_neg Bool.false_ne_true]
    exact ⟨_, M, R, rfl, rfl, bad⟩
  rw [e1, e2, bind_some_, bind_some_, if_pos rfl, if_pos rfl]
  rcases one_b x2 hw hc hr with ⟨p, hp, rfl, f1, f2⟩ | ⟨f1, f2⟩
  rotate_left
  · rw [begin_no f1, bd2_s, if_neg Bool.false_ne_true, f2, bind_some_, if_neg Bool.false_ne_true]
    exact ⟨_, M, R, rfl, rfl, bad⟩
  obtain ⟨M1, a1, a2, a3⟩ := begin_s hw hc hp
  rw [a1, bd2_s, if_pos rfl, f2, bind_some_, if_pos rfl, in_r, bind_some_]
  by_cases b1 : x3 < 0
  · rw [if_pos b1, decide_eq_false (fun q => q.1 b1), if_neg Bool.false_ne_true]
    exact ⟨_, M1, R, rfl, rfl, s, hw, a3, hr⟩
  by_cases b2 : x3 ≤ (20 : Int32)
  rotate_left
  · rw [if_neg b1, if_neg b2, decide_eq_false (fun z => z.2 (Int32.not_le.mp b2)), if_neg Bool.false_ne_true]
    exact ⟨_, M1, R, rfl, rfl, s, hw, a3, hr⟩
  rw [if_neg b1, if_pos b2, decide_eq_true ⟨b1, Int32.not_lt.mpr b2⟩, if_pos rfl, gd_t (i73 hk), nI_clamp (show k < 2 ^ 31 by omega), ar73, gd_t (isK_t (kd1 hk))]
  obtain ⟨n, hn0, rfl⟩ := nn_ex b1
  have hn : n ≤ 20 := by
    rw [lk_20, leI hn0 (by decide)] at b2
    exact b2
  obtain ⟨M2, c1, c2, c3, c4, c5⟩ := row_c (N := N) (M := M1) hN hk (show n ≤ 40 by omega) (0 : Int32)
  have hc2 : RcS M2 (withU s k 0 n (fun _ => 0)) := a3.sh hw hk (c2.wk (fun a ha => ha.elim Or.inl (fun z => Or.inr (Or.inl z)))) c3 c4 c5
  obtain ⟨M3, d1, d2⟩ := film_c (N := N) (x1 := nI k) (x2 := nI p) hN hw hk hn n N 0 (fun _ => 0) M2 (dS (aV s) p) (by omega) (by omega) (fun _ _ => rfl) hc2 (a2.mx c2 (by omega) (by omega)) (hw.1.2.1 p hp)
  rw [c1, bind_some_, show b_X5_film_52 N (nI k) (nI p) (nI n) N (74 + k) (0 : Int32) M2 = _ from d1, gdn (n := len 111) (show k < 4 from hk) (by decide)]
  unfold b_X6_film_43 b_X6_film_50
  rw [gdn (n := len 112) (show k < 4 from hk) (by decide), nI_clamp (show k < 2 ^ 31 by omega)]
  have mu0 : Mu R (sAI (sAI R 111 k 0) 112 k (nI n)) k := (Mu.sort R k 0).tr (Mu.size _ k _)
  have hr0 : WR (sAI (sAI R 111 k 0) 112 k (nI n)) (dC (aV s)) (dS (aV s)) (dW (aV s)) (dN (aV s)) (dL (aV s)) := by
    obtain ⟨k0, k1, k2, k3, k4⟩ := hr.1
    refine ⟨k0, k1, k2, k3, fun q hq => ?_⟩
    have := k4 q hq
    unfold RR at this ⊢
    rw [mu0.2.2.1 101 (by omega), mu0.2.2.1 102 (by omega), mu0.2.2.1 103 (by omega), mu0.2.2.1 104 (by omega), mu0.2.2.1 105 (by omega)]
    exact this
  have ht0 : TR (sAI (sAI R 111 k 0) 112 k (nI n)) (aX s) (aT s) := fun i hi => by
    have := hr.2.2.1 i hi
    unfold RTr at this ⊢
    rw [mu0.2.2.1 107 (by omega), mu0.2.2.1 108 (by omega)]
    exact this
  obtain ⟨g, k1, k2, k3⟩ := keeps_r (N := N) (R := sAI (sAI R 111 k 0) 112 k (nI n)) hN
  generalize hRb : sAI (sAI R 111 k 0) 112 k (nI n) = Rb at mu0 hr0 ht0 k1 k2 k3 ⊢
  have w0 : AI Rb 111 k = 0 := by rw [← hRb, AI_na (by decide), AI_s]
  have w1 : AI Rb 112 k = nI n := by rw [← hRb, AI_s]
  obtain ⟨R2, h1, h2, h3, h4⟩ := film_r (N := N) (w := dW (aV s)) hN hc6 hp hk hn hw.1.2.2.2 hw.2.1.2.1 hw.2.1.2.2 40 N 0 (dN (aV s)) (rAI Rb 120 g) (dS (aV s)) (by omega) (by omega) (by omega) hw.1.2.1 ht0 hr0
  rw [k1, bind_some_, show b_X6_film_57 N (nI k) (nI p) (nI n) N (0 : Int32) (rAI Rb 120 g) = _ from h1]
  have e113 : ∀ q, AI (rAI Rb 113 (AI R2 113)) 113 q = AI R2 113 q := fun q => by rw [AI_rAI_s]
  have mt : Mt (rAI (rAI Rb 113 (AI R2 113)) 120 g) R2 := by
    refine ⟨h2.1, fun j _ => h2.2.1 j, fun b q1 q2 q3 => ?_⟩
    by_cases q4 : b = 113
    · subst q4
      rw [AI_rAI_n _ _ (by decide), AI_rAI_s]
    · rw [h2.2.2.1 b q1 q4 q2 q3]
      by_cases q5 : b = 120
      · subst q5
        rw [AI_rAI_s, AI_rAI_s]
      · rw [AI_rAI_n _ _ q5, AI_rAI_n _ _ q5, AI_rAI_n _ _ q4]
  obtain ⟨R3, g1, ⟨g2, g3, g4, g5⟩, g6, g7, g8, g9⟩ := lays_r (N := N) (R := rAI Rb 113 (AI R2 113)) (R2 := R2) (g := g) hN (fun j hj => by rw [AI_rAI_n _ _ (by decide)]; exact k2 j hj) k3 mt
  rw [g1, bind_some_]
  have mu1 : Mu Rb (rAI Rb 113 (AI R2 113)) k := by
    refine ⟨fun _ => rfl, fun _ => rfl, fun b hb => AI_rAI_n _ _ (by omega), fun q _ => ⟨by rw [AI_rAI_n _ _ (by decide)], by rw [AI_rAI_n _ _ (by decide)]⟩, fun q hq => ?_⟩
    rw [e113, h2.2.2.2 q hq]
    rw [AI_rAI_n _ _ (by decide)]
  have hs : RrS (rAI Rb 113 (AI R2 113)) (withU s k 0 n (fun i => if i < n then nI (kC (itN (aT s (dL (aV s))) (dW (aV s)) (i + 1) (dN (aV s)) (dS (aV s) p)).1) else 0)) := by
    refine hr.sh hk (mu0.tr mu1) ?_ ?_ (fun j hj => ?_)
    · rw [AI_rAI_n _ _ (by decide)]; exact w0
    · rw [AI_rAI_n _ _ (by decide)]; exact w1
    · rw [e113, h4 j (by omega) hj]
      rfl
  have hwU : wfSt (withU s k 0 n (fun i => if i < n then nI (kC (itN (aT s (dL (aV s))) (dW (aV s)) (i + 1) (dN (aV s)) (dS (aV s) p)).1) else 0)) := wf_withU hw (Or.inr (Or.inl rfl)) (by omega) (fun z => absurd z (by decide))
  refine ⟨_, M3, R3, rfl, rfl, _, hwU, ?_, hs.rg hwU ⟨g2, fun j => ?_, g4, g5⟩⟩
  · have e : (fun i => if i < 0 then (0 : Int32) else if i < n then nI (kC (itN (aT s (dL (aV s))) (dW (aV s)) (i - 0 + 1) (dN (aV s) + 0) (dS (aV s) p)).1) else 0) = (fun i => if i < n then nI (kC (itN (aT s (dL (aV s))) (dW (aV s)) (i + 1) (dN (aV s)) (dS (aV s) p)).1) else 0) := by
      funext i
      rw [if_neg (Nat.not_lt_zero i)]
      rfl
    rw [← e]
    exact d2
  · by_cases h6 : j = 6
    · subst h6
      rw [g8, h2.2.1]; rfl
    · exact g3 j h6
