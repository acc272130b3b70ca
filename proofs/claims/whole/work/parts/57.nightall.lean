/-! L2: a night of all, reference: the loops -/
def sumF (f : Nat → Nat) : Nat → Nat
  | 0 => 0
  | n + 1 => sumF f n + f n
theorem sumF_le {f : Nat → Nat} {c : Nat} : ∀ n, (∀ k, k < n → f k ≤ c) → sumF f n ≤ n * c
  | 0, _ => by simp [sumF]
  | n + 1, h => by
    have h1 := sumF_le n (fun k hk => h k (by omega))
    have h2 := h n (by omega)
    unfold sumF
    rw [Nat.succ_mul]
    omega
theorem RR.ms {R R' : Mem} {p q : Nat} {σ : Sl} (h : RR R q σ) (hm : Ms R R' p) (hq : q ≠ p) : RR R' q σ := by
  obtain ⟨r0, r1, r2, r3, r4, r5, r6, r7, r8⟩ := h
  obtain ⟨m1, m2, m3, m4, m5⟩ := hm
  have e1 := m3 101 (by decide) (by decide) (by decide)
  have e2 := m3 102 (by decide) (by decide) (by decide)
  have e4 := m3 104 (by decide) (by decide) (by decide)
  have e5 := m3 105 (by decide) (by decide) (by decide)
  refine ⟨by rw [e1]; exact r0, by rw [e2]; exact r1, ?_, ?_, ?_, ?_, ?_, by rw [e5]; exact r7, fun k hk => by rw [e4]; exact r8 k hk⟩
  · rw [m4 _ (by omega)]; exact r2
  · rw [m4 _ (by omega)]; exact r3
  · rw [m4 _ (by omega)]; exact r4
  · rw [m4 _ (by omega)]; exact r5
  · rw [m4 _ (by omega)]; exact r6
theorem RTr.ms {R R' : Mem} {p i : Nat} {x : Txt} (h : RTr R i x) (hm : Ms R R' p) : RTr R' i x := by
  have e1 := hm.2.2.1 107 (by decide) (by decide) (by decide)
  have e2 := hm.2.2.1 108 (by decide) (by decide) (by decide)
  refine ⟨fun p hp k hk => by rw [e1]; exact h.1 p hp k hk, fun p hp => by rw [e2]; exact h.2.1 p hp, by rw [e2]; exact h.2.2⟩
theorem night_in_r {N p ww : Nat} {w : Int64} {k2 : Int32 → Mem → Option Mem} (hp : p < 6) : ∀ (n fu d : Nat) (R : Mem) (σ : Sl), n < fu → RR R p σ → wfS σ → FJ R 100 6 = w → d + n < 1000 →
    ∃ R', b_X6_nightOf_28 N k2 fu (nI p) (nI (d + n)) (nI ww) 1 (nI d) R = b_X6_nightOf_52 N k2 (nI p) (nI ww) R' ∧ RR R' p (goS w n σ).2.1 ∧ Ms R R' p ∧ FI R' 100 34 = FI R 100 34 + nI (goS w n σ).1 ∧ AJ R' 119 p = AJ R 119 p ||| (goS w n σ).2.2 := by
  intro n
  induction n with
  | zero =>
    intro fu d R σ hf hS hw hW hd
    obtain ⟨fu, rfl⟩ : ∃ z, fu = z + 1 := ⟨fu - 1, by omega⟩
    rw [b_X6_nightOf_28, if_pos (nI_le (by omega) (by omega))]
    refine ⟨R, rfl, hS, Ms.rf R p, ?_, ?_⟩
    · show _ = _ + nI 0
      rw [show nI 0 = 0 from rfl, Int32.add_zero]
    · show _ = _ ||| (0 : Int64)
      rw [Int64.or_zero]
  | succ n ih =>
    intro fu d R σ hf hS hw hW hd
    obtain ⟨fu, rfl⟩ : ∃ z, fu = z + 1 := ⟨fu - 1, by omega⟩
    rw [b_X6_nightOf_28, if_neg (nI_ge (by omega) (by omega)), if_neg (by decide)]
    obtain ⟨R1, g1, g2, g3, g4, g5⟩ := stitch_r hp hS hw hW
    rw [g1, bd2_s, nI_1]
    unfold goS
    by_cases hb : (stepS w σ).1 = true
    · rw [if_pos hb, show (b2i (stepS w σ).1) = 1 from by rw [hb]; rfl, show d + (n + 1) = d + 1 + n by omega]
      obtain ⟨R', m1, m2, m3, m4, m5⟩ := ih fu (d + 1) R1 (stepS w σ).2 (by omega) g2 (wf_step hw) (by rw [g3.2.1]; exact hW) (by omega)
      refine ⟨R', m1, m2, g3.tr m3, ?_, ?_⟩
      · rw [m4, g4, if_pos hb]
        show _ + 1 + nI _ = _ + nI (_ + 1)
        rw [nI_succ, Int32.add_assoc, Int32.add_comm 1]
      · rw [m5, g5, if_pos hb]
        exact Int64.or_assoc _ _ _
    · rw [if_neg hb, show (b2i (stepS w σ).1) = 0 from by rw [Bool.not_eq_true] at hb; rw [hb]; rfl]
      obtain ⟨fu, rfl⟩ : ∃ z, fu = z + 1 := ⟨fu - 1, by omega⟩
      rw [b_X6_nightOf_28, if_pos (show (0 : Int32) = 0 from rfl)]
      refine ⟨R1, by split <;> rfl, g2, g3, ?_, ?_⟩
      · rw [g4, if_neg hb]
        show _ = _ + nI 0
        rw [show nI 0 = 0 from rfl, Int32.add_zero]
      · rw [g5, if_neg hb]
        show _ = _ ||| (0 : Int64)
        rw [Int64.or_zero]
theorem night_one_r {N p i night : Nat} {σ : Sl} {w : Int64} {R : Mem} {x : Txt} {fu : Nat} (hN : 160 < N) (hp : p < 6) (hi : i < 6) (hr : FI R 100 13 = nI i) (hS : RR R p σ) (hw : wfS σ) (hT : RTr R i x) (hx : wfT x) (hW : FJ R 100 6 = w) (hn : FI R 100 7 = nI night) (hn2 : night < 100000) :
    ∃ R', (bd2 (f_X6_goesOf N (nI p) R) fun r12 M12 => bd2 (f_X6_wearsOf N (nI p) M12) fun r18 M18 => b_X6_nightOf_28 N (b_X6_nightOf_2 N fu) N (nI p) r12 r18 1 0 M18) = b_X6_nightOf_2 N fu (nI (p + 1)) R' ∧ RR R' p (walkS x night w σ).2.1 ∧ Ms R R' p ∧ FI R' 100 34 = FI R 100 34 + nI (walkS x night w σ).1 ∧ AJ R' 119 p = AJ R 119 p ||| (walkS x night w σ).2.2 := by
  obtain ⟨g, g', h1⟩ := goes_r hN hp hi hr hS hw hT hx
  obtain ⟨R2, h2, h3⟩ := wears_r (R := rAI (rAI R 118 g) 117 g') hN hp hi hr (hS.ga g g') hw (hT.ga g g') hx hn hn2
  have h4 : Ms (rAI (rAI R 118 g) 117 g') R2 p ∧ RR R2 p σ ∧ FI R2 100 34 = FI R 100 34 ∧ AJ R2 119 p = AJ R 119 p ∧ FJ R2 100 6 = w := by
    rcases h3 with rfl | ⟨g2, g2', rfl⟩
    · exact ⟨Ms.rf _ _, hS.ga g g', rfl, rfl, hW⟩
    · exact ⟨Ms.ga _ p g2 g2', (hS.ga g g').ga g2 g2', rfl, rfl, hW⟩
  obtain ⟨m1, s1, f1, j1, w1⟩ := h4
  have h41 := goesS_le (x := x) hw
  obtain ⟨R3, e3, s3, m3, f3, j3⟩ := night_in_r (N := N) (ww := wearsS x night σ) (w := w) (k2 := b_X6_nightOf_2 N fu) hp (goesS x σ) N 0 R2 σ (by omega) s1 hw w1 (by omega)
  rw [h1, bd2_s, h2, bd2_s]
  rw [Nat.zero_add] at e3
  rw [show ((0 : Int32)) = nI 0 from rfl, e3]
  have q6 : AI R3 103 (5 * p + 4) = nI (kL (goS w (goesS x σ) σ).2.1) := s3.2.2.2.2.2.2.1
  have hL : kL (goS w (goesS x σ) σ).2.1 ≤ 99 := (wf_go _ hw).2.2.2.2.2.2.1
  have hwe := wearsS_le (x := x) (night := night) hw
  have x54 : (5 : Int32) * nI p + 4 = nI (5 * p + 4) := by rw [show (5 : Int32) = nI 5 from rfl, pk_mul]; exact nI_add _ 4
  have k54 : (nI (5 * p + 4)).toNatClampNeg = 5 * p + 4 := nI_clamp (by omega)
  unfold b_X6_nightOf_52
  rw [x54, k54, q6, gdn (n := len 103) (show 5 * p + 4 < 30 by omega) (by decide)]
  have e66 : b_X6_nightOf_66 N (b_X6_nightOf_2 N fu) (nI p) (nI (kL (goS w (goesS x σ) σ).2.1) - nI (wearsS x night σ)) R3 = b_X6_nightOf_2 N fu (nI (p + 1)) (sAI R3 103 (5 * p + 4) (nI (kL (goS w (goesS x σ) σ).2.1 - wearsS x night σ))) := by
    unfold b_X6_nightOf_66 b_X6_nightOf_86 b_X6_nightOf_87
    rw [x54, k54, gdn (n := len 103) (show 5 * p + 4 < 30 by omega) (by decide), gdn (n := len 103) (show 5 * p + 4 < 30 by omega) (by decide), nI_1]
    by_cases h : wearsS x night σ ≤ kL (goS w (goesS x σ) σ).2.1
    · rw [pk_sub h, if_pos (nI_pos' (by omega))]
    · have hz : kL (goS w (goesS x σ) σ).2.1 - wearsS x night σ = 0 := by omega
      have : ¬ (0 : Int32) ≤ nI (kL (goS w (goesS x σ) σ).2.1) - nI (wearsS x night σ) := by
        rw [Int32.le_iff_toInt_le, pk_sub_toInt (by omega) (by omega), show (0 : Int32).toInt = 0 from rfl]
        omega
      rw [if_neg this, hz]; rfl
  rw [e66]
  refine ⟨_, rfl, s3.s6 _, ((Ms.ga R p g g').tr (m1.tr m3)).tr (Ms.row R3 (p := p) (k := 5 * p + 4) _ (by omega) (by omega)), ?_, ?_⟩
  · show FI R3 100 34 = _
    rw [f3, f1]; rfl
  · show AJ R3 119 p = _
    rw [j3, j1]; rfl
/-- R' is R but for rows, miles, nights, where they came to, and what is never read before it is written -/
def Mn (R R' : Mem) (n : Nat) : Prop := (∀ k, k ≠ 34 → k ≠ 7 → FI R' 100 k = FI R 100 k) ∧ (∀ k, FJ R' 100 k = FJ R 100 k) ∧ (∀ b, b ≠ 103 → b ≠ 117 → b ≠ 118 → AI R' b = AI R b) ∧ (∀ q, 5 * n ≤ q → AI R' 103 q = AI R 103 q) ∧ ∀ q, n ≤ q → AJ R' 119 q = AJ R 119 q
theorem Mn.rf (R : Mem) (n : Nat) : Mn R R n := ⟨fun _ _ _ => rfl, fun _ => rfl, fun _ _ _ _ => rfl, fun _ _ => rfl, fun _ _ => rfl⟩
theorem Mn.tr {R R1 R2 : Mem} {p : Nat} (h : Mn R R1 p) (g : Mn R1 R2 p) : Mn R R2 p := ⟨fun k hk hk2 => (g.1 k hk hk2).trans (h.1 k hk hk2), fun k => (g.2.1 k).trans (h.2.1 k), fun b h1 h2 h3 => (g.2.2.1 b h1 h2 h3).trans (h.2.2.1 b h1 h2 h3), fun q hq => (g.2.2.2.1 q hq).trans (h.2.2.2.1 q hq), fun q hq => (g.2.2.2.2 q hq).trans (h.2.2.2.2 q hq)⟩
theorem Mn.ms {R R' : Mem} {p n : Nat} (h : Ms R R' p) (hp : p < n) : Mn R R' n := ⟨fun k hk _ => h.1 k hk, h.2.1, h.2.2.1, fun q hq => h.2.2.2.1 q (by omega), fun q hq => h.2.2.2.2 q (by omega)⟩
theorem Mn.nn (R : Mem) (n : Nat) (v : Int32) : Mn R (sFI R 100 7 v) n := ⟨fun k _ hk => FI_n hk, fun _ => rfl, fun _ _ _ _ => rfl, fun _ _ => rfl, fun _ _ => rfl⟩
theorem night_loop_r {N i night cnt : Nat} {w : Int64} {x : Txt} (hN : 160 < N) (hc : cnt ≤ 6) (hi : i < 6) (hx : wfT x) (hn2 : night < 100000) (σf : Nat → Sl) (hwf : ∀ q, q < cnt → wfS (σf q)) : ∀ (m fu p : Nat) (R : Mem), m < fu → p + m = cnt → FI R 100 13 = nI i → RTr R i x → FJ R 100 6 = w → FI R 100 7 = nI night → FI R 100 0 = nI cnt →
    (∀ q, q < cnt → RR R q (if p ≤ q then σf q else (walkS x night w (σf q)).2.1)) →
    ∃ R', b_X6_nightOf_2 N fu (nI p) R = some R' ∧ (∀ q, q < cnt → RR R' q (walkS x night w (σf q)).2.1) ∧ Mn R R' cnt ∧ FI R' 100 7 = nI (night + 1) ∧ FI R' 100 34 + nI (sumF (fun q => (walkS x night w (σf q)).1) p) = FI R 100 34 + nI (sumF (fun q => (walkS x night w (σf q)).1) cnt) ∧ ∀ q, q < cnt → AJ R' 119 q = (if p ≤ q then AJ R 119 q ||| (walkS x night w (σf q)).2.2 else AJ R 119 q) := by
  intro m
  induction m with
  | zero =>
    intro fu p R hf hpm hr hT hW hn hc0 hS
    obtain ⟨fu, rfl⟩ : ∃ z, fu = z + 1 := ⟨fu - 1, by omega⟩
    have : p = cnt := by omega
    subst this
    rw [b_X6_nightOf_2, hc0, if_pos (nI_le (by omega) (by omega)), hn, nI_1]
    refine ⟨_, rfl, fun q hq => ?_, Mn.nn R p _, FI_s, by rw [FI_n (by decide)], fun q hq => by rw [if_neg (by omega)]; rfl⟩
    have := hS q hq
    rw [if_neg (by omega)] at this
    exact this
  | succ m ih =>
    intro fu p R hf hpm hr hT hW hn hc0 hS
    obtain ⟨fu, rfl⟩ : ∃ z, fu = z + 1 := ⟨fu - 1, by omega⟩
    have hSp := hS p (by omega)
    rw [if_pos (Nat.le_refl p)] at hSp
    rw [b_X6_nightOf_2, hc0, if_neg (nI_ge (by omega) (by omega))]
    obtain ⟨R1, e1, s1, m1, f1, j1⟩ := night_one_r (fu := fu) hN (show p < 6 by omega) hi hr hSp (hwf p (by omega)) hT hx hW hn hn2
    rw [e1]
    obtain ⟨R', a1, a2, a3, a4, a5, a6⟩ := ih fu (p + 1) R1 (by omega) (by omega) (by rw [m1.1 13 (by decide)]; exact hr) (hT.ms m1) (by rw [m1.2.1]; exact hW) (by rw [m1.1 7 (by decide)]; exact hn) (by rw [m1.1 0 (by decide)]; exact hc0) (fun q hq => by
      by_cases hqp : q = p
      · subst hqp
        rw [if_neg (by omega)]
        exact s1
      · have h := (hS q hq).ms m1 hqp
        by_cases h2 : p ≤ q
        · rw [if_pos (by omega)]
          rw [if_pos h2] at h
          exact h
        · rw [if_neg (by omega)]
          rw [if_neg h2] at h
          exact h)
    refine ⟨R', a1, a2, (Mn.ms m1 (by omega)).tr a3, a4, ?_, fun q hq => ?_⟩
    · rw [f1] at a5
      have e : nI (sumF (fun q => (walkS x night w (σf q)).1) (p + 1)) = nI (sumF (fun q => (walkS x night w (σf q)).1) p) + nI (walkS x night w (σf p)).1 := by rw [nI_add]; rfl
      rw [e, ← Int32.add_assoc] at a5
      have a7 : (FI R' 100 34 + nI (sumF (fun q => (walkS x night w (σf q)).1) p)) + nI (walkS x night w (σf p)).1 = (FI R 100 34 + nI (sumF (fun q => (walkS x night w (σf q)).1) cnt)) + nI (walkS x night w (σf p)).1 := by
        rw [a5, Int32.add_assoc, Int32.add_comm (nI (walkS x night w (σf p)).1), ← Int32.add_assoc]
      exact (Int32.add_left_inj _).mp a7
    · rw [a6 q hq]
      by_cases hqp : q = p
      · subst hqp
        rw [if_neg (by omega), if_pos (by omega), j1]
      · rw [m1.2.2.2.2 q hqp]
        by_cases h2 : p ≤ q
        · rw [if_pos (by omega), if_pos h2]
        · rw [if_neg (by omega), if_neg h2]
theorem nightOf_r {N i night cnt : Nat} {w : Int64} {x : Txt} {R : Mem} (hN : 160 < N) (hc : cnt ≤ 6) (hi : i < 6) (hx : wfT x) (hn2 : night < 100000) (σf : Nat → Sl) (hwf : ∀ q, q < cnt → wfS (σf q)) (hr : FI R 100 13 = nI i) (hT : RTr R i x) (hW : FJ R 100 6 = w) (hn : FI R 100 7 = nI night) (hc0 : FI R 100 0 = nI cnt) (hS : ∀ q, q < cnt → RR R q (σf q)) :
    ∃ R', f_X6_nightOf N R = some R' ∧ (∀ q, q < cnt → RR R' q (walkS x night w (σf q)).2.1) ∧ Mn R R' cnt ∧ FI R' 100 7 = nI (night + 1) ∧ FI R' 100 34 = FI R 100 34 + nI (sumF (fun q => (walkS x night w (σf q)).1) cnt) ∧ ∀ q, q < cnt → AJ R' 119 q = AJ R 119 q ||| (walkS x night w (σf q)).2.2 := by
  obtain ⟨R', a1, a2, a3, a4, a5, a6⟩ := night_loop_r hN hc hi hx hn2 σf hwf cnt N 0 R (by omega) (by omega) hr hT hW hn hc0 (fun q hq => by rw [if_pos (Nat.zero_le _)]; exact hS q hq)
  refine ⟨R', a1, a2, a3, a4, ?_, fun q hq => by rw [a6 q hq, if_pos (Nat.zero_le _)]⟩
  have : nI (sumF (fun q => (walkS x night w (σf q)).1) 0) = 0 := rfl
  rw [this, Int32.add_zero] at a5
  exact a5
