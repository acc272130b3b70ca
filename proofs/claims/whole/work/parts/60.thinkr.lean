/-! L2: thoughts of the reference -/
/-- R' is R but for what a thought writes -/
def Mt (R R' : Mem) : Prop := (∀ k, k ≠ 34 → k ≠ 7 → k ≠ 36 → FI R' 100 k = FI R 100 k) ∧ (∀ k, k ≠ 6 → FJ R' 100 k = FJ R 100 k) ∧ ∀ b, b ≠ 103 → b ≠ 117 → b ≠ 118 → AI R' b = AI R b
theorem Mt.rf (R : Mem) : Mt R R := ⟨fun _ _ _ _ => rfl, fun _ _ => rfl, fun _ _ _ _ => rfl⟩
theorem Mt.tr {R R1 R2 : Mem} (h : Mt R R1) (g : Mt R1 R2) : Mt R R2 := ⟨fun k h1 h2 h3 => (g.1 k h1 h2 h3).trans (h.1 k h1 h2 h3), fun k h1 => (g.2.1 k h1).trans (h.2.1 k h1), fun b h1 h2 h3 => (g.2.2 b h1 h2 h3).trans (h.2.2 b h1 h2 h3)⟩
theorem Mt.mn {R R' : Mem} {n : Nat} (h : Mn R R' n) : Mt R R' := ⟨fun k h1 h2 _ => h.1 k h1 h2, fun k _ => h.2.1 k, h.2.2.1⟩
theorem Mt.ga (R : Mem) (g g' : Nat → Int32) : Mt R (rAI (rAI R 118 g) 117 g') := ⟨fun _ _ _ _ => rfl, fun _ _ => rfl, fun b _ h2 h3 => by rw [AI_rAI_n _ _ h2, AI_rAI_n _ _ h3]⟩
theorem RTr.mt {R R' : Mem} {i : Nat} {x : Txt} (h : RTr R i x) (hm : Mt R R') : RTr R' i x := by
  have e1 := hm.2.2 107 (by decide) (by decide) (by decide)
  have e2 := hm.2.2 108 (by decide) (by decide) (by decide)
  exact ⟨fun p hp k hk => by rw [e1]; exact h.1 p hp k hk, fun p hp => by rw [e2]; exact h.2.1 p hp, by rw [e2]; exact h.2.2⟩
/-- what stays behind a thought -/
def Rg (R R' : Mem) : Prop := (∀ k, k ≠ 34 → k ≠ 36 → FI R' 100 k = FI R 100 k) ∧ (∀ k, FJ R' 100 k = FJ R 100 k) ∧ (∀ b, b ≠ 103 → b ≠ 117 → b ≠ 118 → b ≠ 120 → AI R' b = AI R b) ∧ ∀ k, k < 30 → AI R' 103 k = AI R 103 k
theorem Rg.rf (R : Mem) : Rg R R := ⟨fun _ _ _ => rfl, fun _ => rfl, fun _ _ _ _ _ => rfl, fun _ _ => rfl⟩
theorem Rg.tr {R R1 R2 : Mem} (h : Rg R R1) (g : Rg R1 R2) : Rg R R2 := ⟨fun k h1 h2 => (g.1 k h1 h2).trans (h.1 k h1 h2), fun k => (g.2.1 k).trans (h.2.1 k), fun b h1 h2 h3 h4 => (g.2.2.1 b h1 h2 h3 h4).trans (h.2.2.1 b h1 h2 h3 h4), fun k hk => (g.2.2.2 k hk).trans (h.2.2.2 k hk)⟩
theorem keeps_loop {N : Nat} {R : Mem} : ∀ (m fu p : Nat) (g : Nat → Int32), m < fu → p + m = 30 → (∀ k, k < p → g k = AI R 103 k) → ∃ g', b_X6_keeps_2 N fu (nI p) (rAI R 120 g) = some (rAI R 120 g') ∧ (∀ k, k < 30 → g' k = AI R 103 k) ∧ g' 30 = FI R 100 7 := by
  intro m
  induction m with
  | zero =>
    intro fu p g hf hp hg
    obtain ⟨fu, rfl⟩ : ∃ z, fu = z + 1 := ⟨fu - 1, by omega⟩
    have : p = 30 := by omega
    subst this
    rw [b_X6_keeps_2, if_pos (show (30 : Int32) ≤ nI 30 from by decide), sAI_rAI]
    refine ⟨_, rfl, fun k hk => ?_, ?_⟩
    · show (if k = 30 then _ else g k) = _
      rw [if_neg (by omega)]
      exact hg k hk
    · rfl
  | succ m ih =>
    intro fu p g hf hp hg
    obtain ⟨fu, rfl⟩ : ∃ z, fu = z + 1 := ⟨fu - 1, by omega⟩
    rw [b_X6_keeps_2, if_neg (show ¬ (30 : Int32) ≤ nI p from nI_ge (b := 30) (by omega) (by decide)), gdn (n := len 103) (show p < 30 by omega) (by decide), gdn (n := len 120) (show p < 31 by omega) (by decide), nI_clamp (by omega), sAI_rAI, AI_rAI_n _ _ (by decide)]
    unfold b_X6_keeps_20
    rw [nI_1]
    refine ih fu (p + 1) _ (by omega) (by omega) (fun k hk => ?_)
    show (if k = p then _ else g k) = _
    by_cases h : k = p
    · rw [if_pos h, h]
    · rw [if_neg h]
      exact hg k (by omega)
theorem keeps_r {N : Nat} {R : Mem} (hN : 160 < N) : ∃ g, f_X6_keeps N R = some (rAI R 120 g) ∧ (∀ k, k < 30 → g k = AI R 103 k) ∧ g 30 = FI R 100 7 := by
  have h := keeps_loop (N := N) (R := R) 30 N 0 (AI R 120) (by omega) (by omega) (fun k hk => by omega)
  rw [rAI_self] at h
  exact h
theorem lays_loop {N : Nat} {R : Mem} : ∀ (m fu p : Nat) (g : Nat → Int32), m < fu → p + m = 30 → (∀ k, k < p → g k = AI R 120 k) → ∃ g', b_X6_lays_2 N fu (nI p) (rAI R 103 g) = some (sFI (rAI R 103 g') 100 7 (AI R 120 30)) ∧ (∀ k, k < 30 → g' k = AI R 120 k) := by
  intro m
  induction m with
  | zero =>
    intro fu p g hf hp hg
    obtain ⟨fu, rfl⟩ : ∃ z, fu = z + 1 := ⟨fu - 1, by omega⟩
    have : p = 30 := by omega
    subst this
    rw [b_X6_lays_2, if_pos (show (30 : Int32) ≤ nI 30 from by decide), AI_rAI_n _ _ (by decide)]
    exact ⟨g, rfl, hg⟩
  | succ m ih =>
    intro fu p g hf hp hg
    obtain ⟨fu, rfl⟩ : ∃ z, fu = z + 1 := ⟨fu - 1, by omega⟩
    rw [b_X6_lays_2, if_neg (show ¬ (30 : Int32) ≤ nI p from nI_ge (b := 30) (by omega) (by decide)), gdn (n := len 103) (show p < 30 by omega) (by decide), gdn (n := len 120) (show p < 31 by omega) (by decide), nI_clamp (by omega), sAI_rAI, AI_rAI_n _ _ (by decide)]
    unfold b_X6_lays_20
    rw [nI_1]
    refine ih fu (p + 1) _ (by omega) (by omega) (fun k hk => ?_)
    show (if k = p then _ else g k) = _
    by_cases h : k = p
    · rw [if_pos h, h]
    · rw [if_neg h]
      exact hg k (by omega)
/-- laid back: behind a thought that began with keeps -/
theorem lays_r {N : Nat} {R R2 : Mem} {g : Nat → Int32} (hN : 160 < N) (h1 : ∀ k, k < 30 → g k = AI R 103 k) (h2 : g 30 = FI R 100 7) (hm : Mt (rAI R 120 g) R2) : ∃ R3, f_X6_lays N R2 = some R3 ∧ ((∀ k, k ≠ 34 → k ≠ 36 → FI R3 100 k = FI R 100 k) ∧ (∀ k, k ≠ 6 → FJ R3 100 k = FJ R 100 k) ∧ (∀ b, b ≠ 103 → b ≠ 117 → b ≠ 118 → b ≠ 120 → AI R3 b = AI R b) ∧ ∀ k, k < 30 → AI R3 103 k = AI R 103 k) ∧ FI R3 100 34 = FI R2 100 34 ∧ FI R3 100 36 = FI R2 100 36 ∧ FJ R3 100 6 = FJ R2 100 6 ∧ AJ R3 119 = AJ R2 119 := by
  have h := lays_loop (N := N) (R := R2) 30 N 0 (AI R2 103) (by omega) (by omega) (fun k hk => by omega)
  rw [rAI_self] at h
  obtain ⟨g', e1, e2⟩ := h
  have e120 : AI R2 120 = g := by rw [hm.2.2 120 (by decide) (by decide) (by decide), AI_rAI_s]
  refine ⟨_, e1, ⟨fun k k1 k2 => ?_, fun k hk => (hm.2.1 k hk), fun b b1 b2 b3 b4 => ?_, fun k hk => ?_⟩, ?_, ?_, rfl, rfl⟩
  · by_cases h7 : k = 7
    · subst h7
      rw [FI_s, e120, h2]
    · rw [FI_n h7, FI_rAI]
      exact hm.1 k k1 h7 k2
  · rw [show AI (sFI (rAI R2 103 g') 100 7 (AI R2 120 30)) b = AI (rAI R2 103 g') b from rfl, AI_rAI_n _ _ b1, hm.2.2 b b1 b2 b3, AI_rAI_n _ _ b4]
  · rw [show AI (sFI (rAI R2 103 g') 100 7 (AI R2 120 30)) 103 = AI (rAI R2 103 g') 103 from rfl, AI_rAI_s, e2 k hk, e120, h1 k hk]
  · rw [FI_n (by decide)]; rfl
  · rw [FI_n (by decide)]; rfl
/-- what the reference's truth is -/
def WR (R : Mem) (cnt : Nat) (σf : Nat → Sl) (w : Int64) (night law : Nat) : Prop := FJ R 100 6 = w ∧ FI R 100 7 = nI night ∧ FI R 100 13 = nI law ∧ FI R 100 0 = nI cnt ∧ ∀ q, q < cnt → RR R q (σf q)
def TR (R : Mem) (tx : Nat) (tf : Nat → Txt) : Prop := ∀ i, i < tx → RTr R i (tf i)
theorem TR.mt {R R' : Mem} {tx : Nat} {tf : Nat → Txt} (h : TR R tx tf) (hm : Mt R R') : TR R' tx tf := fun i hi => (h i hi).mt hm
theorem night_w {N cnt law tx night : Nat} {w : Int64} {tf : Nat → Txt} {R : Mem} {σf : Nat → Sl} (hN : 160 < N) (hc : cnt ≤ 6) (hl : law < tx) (htx : tx ≤ 6) (hxf : ∀ i, i < tx → wfT (tf i)) (hn : night < 100000) (hwf : ∀ q, q < cnt → wfS (σf q)) (hT : TR R tx tf) (hW : WR R cnt σf w night law) :
    ∃ R', f_X6_nightOf N R = some R' ∧ WR R' cnt (fun q => (walkS (tf law) night w (σf q)).2.1) w (night + 1) law ∧ Mn R R' cnt ∧ FI R' 100 34 = FI R 100 34 + nI (sumF (fun q => (walkS (tf law) night w (σf q)).1) cnt) ∧ ∀ q, q < cnt → AJ R' 119 q = AJ R 119 q ||| (walkS (tf law) night w (σf q)).2.2 := by
  obtain ⟨k0, k1, k2, k3, k4⟩ := hW
  obtain ⟨R', a1, a2, a3, a4, a5, a6⟩ := nightOf_r hN hc (show law < 6 by omega) (hxf law hl) hn σf hwf k2 (hT law hl) k0 k1 k3 k4
  exact ⟨R', a1, ⟨(a3.2.1 6).trans k0, a4, (a3.1 13 (by decide) (by decide)).trans k2, (a3.1 0 (by decide) (by decide)).trans k3, a2⟩, a3, a5, a6⟩
theorem goesN_loop {N n cnt law tx : Nat} {w : Int64} {tf : Nat → Txt} (hN : 160 < N) (hc : cnt ≤ 6) (hl : law < tx) (htx : tx ≤ 6) (hxf : ∀ i, i < tx → wfT (tf i)) (hn100 : n ≤ 100) : ∀ (m fu d night : Nat) (R : Mem) (σf : Nat → Sl), m < fu → d + m = n → night + m < 100000 → (∀ q, q < cnt → wfS (σf q)) → TR R tx tf → WR R cnt σf w night law →
    ∃ R', b_X6_goes_39 N (nI n) fu (nI d) R = some R' ∧ WR R' cnt (wN (tf law) w cnt m night σf).2 w (night + m) law ∧ Mn R R' cnt ∧ FI R' 100 34 = FI R 100 34 + nI (wN (tf law) w cnt m night σf).1 ∧ ∀ q, q < cnt → AJ R' 119 q = AJ R 119 q ||| (itN (tf law) w m night (σf q)).2 := by
  intro m
  induction m with
  | zero =>
    intro fu d night R σf hf hd hni hwf hT hW
    obtain ⟨fu, rfl⟩ : ∃ z, fu = z + 1 := ⟨fu - 1, by omega⟩
    rw [b_X6_goes_39, if_pos (nI_le (by omega) (by omega))]
    refine ⟨R, rfl, hW, Mn.rf _ _, ?_, fun q hq => ?_⟩
    · show _ = _ + nI 0
      rw [show nI 0 = 0 from rfl, Int32.add_zero]
    · show _ = _ ||| (0 : Int64)
      rw [Int64.or_zero]
  | succ m ih =>
    intro fu d night R σf hf hd hni hwf hT hW
    obtain ⟨fu, rfl⟩ : ∃ z, fu = z + 1 := ⟨fu - 1, by omega⟩
    rw [b_X6_goes_39, if_neg (nI_ge (by omega) (by omega))]
    obtain ⟨R1, e1, W1, m1, f1, j1⟩ := night_w hN hc hl htx hxf (by omega) hwf hT hW
    rw [e1, bind_some_, nI_1]
    obtain ⟨R', a1, a2, a3, a4, a5⟩ := ih fu (d + 1) (night + 1) R1 _ (by omega) (by omega) (by omega) (fun q hq => wf_walk (hwf q hq)) (hT.mt (Mt.mn m1)) W1
    refine ⟨R', a1, by rw [show night + (m + 1) = night + 1 + m by omega]; exact a2, m1.tr a3, ?_, fun q hq => ?_⟩
    · rw [a4, f1, Int32.add_assoc, nI_add]
      rfl
    · rw [a5 q hq, j1 q hq]
      exact Int64.or_assoc _ _ _
theorem goesC_loop {N n cnt : Nat} {σf : Nat → Sl} (hc : cnt ≤ 6) : ∀ (m fu p : Nat) (R : Mem), m < fu → p + m = cnt → FI R 100 0 = nI cnt → (∀ q, q < cnt → AI R 103 (5 * q) = nI (kC (σf q))) → (∀ q, q < p → AJ R 119 q = bitL (kC (σf q))) →
    ∃ R', b_X6_goes_7 N (nI n) fu (nI p) R = b_X6_goes_39 N (nI n) N 0 R' ∧ (∀ k, FI R' 100 k = FI R 100 k) ∧ (∀ k, FJ R' 100 k = FJ R 100 k) ∧ (∀ b, AI R' b = AI R b) ∧ ∀ q, q < cnt → AJ R' 119 q = bitL (kC (σf q)) := by
  intro m
  induction m with
  | zero =>
    intro fu p R hf hp hC hS hJ
    obtain ⟨fu, rfl⟩ : ∃ z, fu = z + 1 := ⟨fu - 1, by omega⟩
    have : p = cnt := by omega
    subst this
    rw [b_X6_goes_7, hC, if_pos (nI_le (by omega) (by omega))]
    exact ⟨R, rfl, fun _ => rfl, fun _ => rfl, fun _ => rfl, hJ⟩
  | succ m ih =>
    intro fu p R hf hp hC hS hJ
    obtain ⟨fu, rfl⟩ : ∃ z, fu = z + 1 := ⟨fu - 1, by omega⟩
    rw [b_X6_goes_7, hC, if_neg (nI_ge (by omega) (by omega)), show (5 : Int32) = nI 5 from rfl, pk_mul, gdn (n := len 103) (show 5 * p < 30 by omega) (by decide), gdn (n := len 119) (show p < 6 by omega) (by decide), nI_clamp (show 5 * p < 2 ^ 31 by omega), nI_clamp (show p < 2 ^ 31 by omega), hS p (by omega)]
    unfold b_X6_goes_31
    rw [nI_1]
    obtain ⟨R', a1, a2, a3, a4, a5⟩ := ih fu (p + 1) (sAJ R 119 p ((1 : Int64) <<< ((nI (kC (σf p))).toInt64 &&& 63))) (by omega) (by omega) hC hS (fun q hq => by
      by_cases h : q = p
      · subst h; rw [AJ_s]; rfl
      · rw [AJ_n h]; exact hJ q (by omega))
    exact ⟨R', a1, a2, a3, a4, a5⟩
theorem goes_rN {N n cnt law tx night : Nat} {w : Int64} {tf : Nat → Txt} {R : Mem} {σf : Nat → Sl} (hN : 160 < N) (hc : cnt ≤ 6) (hl : law < tx) (htx : tx ≤ 6) (hxf : ∀ i, i < tx → wfT (tf i)) (hn100 : n ≤ 100) (hn : night < 10000) (hwf : ∀ q, q < cnt → wfS (σf q)) (hT : TR R tx tf) (hW : WR R cnt σf w night law) :
    ∃ R', f_X6_goes N (nI n) R = some R' ∧ WR R' cnt (wN (tf law) w cnt n night σf).2 w (night + n) law ∧ Mt R R' ∧ FI R' 100 34 = nI (wN (tf law) w cnt n night σf).1 ∧ FI R' 100 36 = FI R 100 36 ∧ ∀ q, q < cnt → AJ R' 119 q = bitL (kC (σf q)) ||| (itN (tf law) w n night (σf q)).2 := by
  obtain ⟨k0, k1, k2, k3, k4⟩ := id hW
  have m0 : Mt R (sFI R 100 34 0) := ⟨fun k h1 _ _ => FI_n h1, fun _ _ => rfl, fun _ _ _ _ => rfl⟩
  unfold f_X6_goes b_X6_goes_0 b_X6_goes_5
  obtain ⟨R1, e1, f1, j1, r1, c1⟩ := goesC_loop (N := N) (n := n) (σf := σf) hc cnt N 0 (sFI R 100 34 0) (by omega) (by omega) ((FI_n (by decide)).trans k3) (fun q hq => (k4 q hq).2.2.1) (fun q hq => by omega)
  rw [show ((0 : Int32)) = nI 0 from rfl] at e1 ⊢
  rw [e1]
  have m1 : Mt (sFI R 100 34 0) R1 := ⟨fun k _ _ _ => f1 k, fun k _ => j1 k, fun b _ _ _ => r1 b⟩
  have W1 : WR R1 cnt σf w night law := by
    refine ⟨(j1 6).trans k0, (f1 7).trans ((FI_n (by decide)).trans k1), (f1 13).trans ((FI_n (by decide)).trans k2), (f1 0).trans ((FI_n (by decide)).trans k3), fun q hq => ?_⟩
    obtain ⟨r0, r1', r2, r3, r4, r5, r6, r7, r8⟩ := k4 q hq
    refine ⟨?_, ?_, ?_, ?_, ?_, ?_, ?_, ?_, fun k hk => ?_⟩ <;> rw [r1]
    · exact r0
    · exact r1'
    · exact r2
    · exact r3
    · exact r4
    · exact r5
    · exact r6
    · exact r7
    · exact r8 k hk
  obtain ⟨R', a1, a2, a3, a4, a5⟩ := goesN_loop (N := N) hN hc hl htx hxf hn100 n N 0 night R1 σf (by omega) (by omega) (by omega) hwf ((hT.mt m0).mt m1) W1
  refine ⟨R', a1, a2, (m0.tr m1).tr (Mt.mn a3), ?_, ?_, fun q hq => by rw [a5 q hq, c1 q hq]⟩
  · rw [a4, f1 34, FI_s]; exact Int32.zero_add _
  · rw [a3.1 36 (by decide) (by decide), f1 36, FI_n (by decide)]
