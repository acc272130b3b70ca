/-! L2: a night of all: the reference -/
theorem says_r {N p i : Nat} {nmf : Nat → Int32} {R0 : Mem} {x : Txt} (hN : 160 < N) (hp : p < 3) (hi : i < 6) (hr : FI R0 100 13 = nI i) (hn : ∀ w, w < 6 → AI R0 118 w = nmf w) (hT : RTr R0 i x) (hx : wfT x) : ∃ g, f_X6_says N (nI p) R0 = some (evP nmf (tP x p), rAI R0 117 g) := by
  have hE := tE_le hx hp
  have hB : tB x p + (tP x p).length = tE x p := rfl
  have hE2 : AI R0 108 (4 * i + p + 1) = nI (tE x p) := by
    by_cases q : p = 2
    · subst q; exact hT.2.2
    · rw [show 4 * i + p + 1 = 4 * i + (p + 1) by omega, hT.2.1 (p + 1) (by omega), tB_E (by omega) (by omega)]; rfl
  obtain ⟨g, h⟩ := says_loop_r (N := N) hp hi hr hn hE hE2 (tP x p) N (tB x p) [] (AI R0 117) (by omega) hB (by simp; omega) (fun k hk => hT.1 p hp k hk) (fun q hq => by simp at hq) (hx.1 p hp)
  rw [rAI_self] at h
  refine ⟨g, ?_⟩
  unfold f_X6_says b_X6_says_0
  rw [hr, show (4 : Int32) = nI 4 from rfl, pk_mul, nI_add, gdn (n := len 108) (show 4 * i + p < 24 by omega) (by decide), nI_clamp (by omega), hT.2.1 p hp]
  exact h
theorem wr_eq {lo hi v : Int32} (R : Mem) : f_X6_within v lo hi R = some (if v < lo then lo else if hi < v then hi else v) := by
  unfold f_X6_within b_X6_within_0
  by_cases h1 : v < lo
  · rw [if_neg (lt_nle h1), if_pos h1]
  · rw [if_pos (nlt_le h1), if_neg h1]
    by_cases h2 : hi < v
    · rw [if_neg (lt_nle h2), if_pos h2]
    · rw [if_pos (nlt_le h2), if_neg h2]
theorem RTr.ga {R : Mem} {i : Nat} {x : Txt} (h : RTr R i x) (g g' : Nat → Int32) : RTr (rAI (rAI R 118 g) 117 g') i x := h
theorem asks_r {N p q i : Nat} {σ : Sl} {R : Mem} {x : Txt} (hN : 160 < N) (hp : p < 3) (hq : q < 6) (hi : i < 6) (hr : FI R 100 13 = nI i) (hS : RR R q σ) (hw : wfS σ) (hT : RTr R i x) (hx : wfT x) : ∃ g g', f_X6_asksOf N (nI p) (nI q) R = some (ask x σ p, rAI (rAI R 118 g) 117 g') := by
  obtain ⟨w0, w1, w2, w3, w4, w5, w6, w7, w8⟩ := id hw
  obtain ⟨r0, r1, r2, r3, r4, r5, r6, r7, r8⟩ := id hS
  have x50 : (5 : Int32) * nI q = nI (5 * q) := pk_mul 5 q
  have x52 : nI (5 * q) + 2 = nI (5 * q + 2) := nI_add _ 2
  have x53 : nI (5 * q) + 3 = nI (5 * q + 3) := nI_add _ 3
  have x54 : nI (5 * q) + 4 = nI (5 * q + 4) := nI_add _ 4
  have k50 : (nI (5 * q)).toNatClampNeg = 5 * q := nI_clamp (by omega)
  have k52 : (nI (5 * q + 2)).toNatClampNeg = 5 * q + 2 := nI_clamp (by omega)
  have k53 : (nI (5 * q + 3)).toNatClampNeg = 5 * q + 3 := nI_clamp (by omega)
  have k54 : (nI (5 * q + 4)).toNatClampNeg = 5 * q + 4 := nI_clamp (by omega)
  have kq : (nI q).toNatClampNeg = q := nI_clamp (by omega)
  have hA : ∀ (g : Nat → Int32) (b : Nat), b ≠ 118 → AI (rAI R 118 g) b = AI R b := fun g b hb => AI_rAI_n _ _ hb
  have c0 : (0 : Int32).toNatClampNeg = 0 := rfl
  have c1 : (1 : Int32).toNatClampNeg = 1 := rfl
  have c2 : (2 : Int32).toNatClampNeg = 2 := rfl
  have c3 : (3 : Int32).toNatClampNeg = 3 := rfl
  have c4 : (4 : Int32).toNatClampNeg = 4 := rfl
  have c5 : (5 : Int32).toNatClampNeg = 5 := rfl
  unfold f_X6_asksOf b_X6_asksOf_0
  rw [x50, x52, k52, r4, gdn (n := len 103) (show 5 * q + 2 < 30 by omega) (by decide), sAI_as, c0]
  unfold b_X6_asksOf_16
  rw [x50, k50, hA _ _ (by decide), r2, gdn (n := len 103) (show 5 * q < 30 by omega) (by decide), sAI_rAI, c1, show (8 : Int32) = nI 8 from rfl, remI (by omega) (by decide) (by decide)]
  unfold b_X6_asksOf_33
  rw [x50, k50, hA _ _ (by decide), r2, gdn (n := len 103) (show 5 * q < 30 by omega) (by decide), sAI_rAI, c2, show (8 : Int32) = nI 8 from rfl, pk_div (by omega) (by decide) (by decide)]
  unfold b_X6_asksOf_50
  rw [x50, x53, k53, hA _ _ (by decide), r5, gdn (n := len 103) (show 5 * q + 3 < 30 by omega) (by decide), sAI_rAI, c3]
  unfold b_X6_asksOf_66
  rw [x50, x54, k54, hA _ _ (by decide), r6, gdn (n := len 103) (show 5 * q + 4 < 30 by omega) (by decide), sAI_rAI, c4]
  unfold b_X6_asksOf_82
  rw [kq, hA _ _ (by decide), r1, gdn (n := len 102) (show q < 6 by omega) (by decide), sAI_rAI, c5]
  unfold b_X6_asksOf_94
  generalize hG : (upd (upd (upd (upd (upd (upd (AI R 118) 0 (nI (kN σ))) 1 (nI (kC σ % 8))) 2 (nI (kC σ / 8))) 3 (nI (kT σ))) 4 (nI (kL σ))) 5 (nI (kM σ))) = G
  have hn : ∀ w, w < 6 → AI (rAI R 118 G) 118 w = nm σ w := by
    intro w hw6
    rw [AI_rAI_s, ← hG]
    have e : w = 0 ∨ w = 1 ∨ w = 2 ∨ w = 3 ∨ w = 4 ∨ w = 5 := by omega
    unfold nm nmv
    rcases e with e | e | e | e | e | e <;> rw [e] <;> rfl
  obtain ⟨g', h1⟩ := says_r (R0 := rAI R 118 G) hN hp hi hr hn hT hx
  rw [h1, bd2_s]
  refine ⟨G, g', ?_⟩
  unfold b_X6_asksOf_110 b_X6_asksOf_121 ask bnd
  rw [wr_eq, wr_eq, wr_eq, wr_eq]
  have e : p = 0 ∨ p = 1 ∨ p = 2 := by omega
  rcases e with e | e | e <;> rw [e] <;> simp (decide := true) only [if_true, if_false, reduceIte] <;> rfl
theorem goes_r {N q i : Nat} {σ : Sl} {R : Mem} {x : Txt} (hN : 160 < N) (hq : q < 6) (hi : i < 6) (hr : FI R 100 13 = nI i) (hS : RR R q σ) (hw : wfS σ) (hT : RTr R i x) (hx : wfT x) : ∃ g g', f_X6_goesOf N (nI q) R = some (nI (goesS x σ), rAI (rAI R 118 g) 117 g') := by
  obtain ⟨g, g', h1⟩ := asks_r hN (by decide : 0 < 3) hq hi hr hS hw hT hx
  obtain ⟨v1, v2⟩ := ask_0 x σ
  obtain ⟨w0, w1, w2, w3, w4, w5, w6, w7, w8⟩ := id hw
  obtain ⟨r0, r1, r2, r3, r4, r5, r6, r7, r8⟩ := hS.ga g g'
  have x50 : (5 : Int32) * nI q = nI (5 * q) := pk_mul 5 q
  have x54 : nI (5 * q) + 4 = nI (5 * q + 4) := nI_add _ 4
  have k54 : (nI (5 * q + 4)).toNatClampNeg = 5 * q + 4 := nI_clamp (by omega)
  have kq : (nI q).toNatClampNeg = q := nI_clamp (by omega)
  refine ⟨g, g', ?_⟩
  unfold f_X6_goesOf b_X6_goesOf_0
  rw [show (0 : Int32) = nI 0 from rfl, h1, bd2_s, x50, x54, k54, r6, v1, gdn (n := len 103) (show 5 * q + 4 < 30 by omega) (by decide)]
  unfold b_X6_goesOf_18
  have e0 : (if nI (kL σ) = 0 then b_X6_goesOf_27 N (nI q) (nI (askN x σ 0)) (nI (kL σ)) 0 (rAI (rAI R 118 g) 117 g') else b_X6_goesOf_27 N (nI q) (nI (askN x σ 0)) (nI (kL σ)) (nI (askN x σ 0)) (rAI (rAI R 118 g) 117 g')) = b_X6_goesOf_27 N (nI q) (nI (askN x σ 0)) (nI (kL σ)) (nI (if kL σ = 0 then 0 else askN x σ 0)) (rAI (rAI R 118 g) 117 g') := by
    rw [show (0 : Int32) = nI 0 from rfl, itEq (by omega) (by decide)]
    split <;> rfl
  rw [e0]
  have hqq : (if kL σ = 0 then 0 else askN x σ 0) ≤ 20 := by split <;> omega
  unfold goesS
  dsimp only
  generalize (if kL σ = 0 then 0 else askN x σ 0) = z at hqq
  unfold b_X6_goesOf_27
  rw [kq, r1, nI_1, gdn (n := len 102) (show q < 6 by omega) (by decide), gd_t (decide_eq_true (nI_ne0 (by omega) (by omega))), show (2 : Int32) = nI 2 from rfl, pk_mul, remI (by omega) (by omega) (by omega)]
  unfold b_X6_goesOf_44
  rw [kq, r0, r1, gdn (n := len 101) (show q < 6 by omega) (by decide), gdn (n := len 102) (show q < 6 by omega) (by decide), gdn (n := len 102) (show q < 6 by omega) (by decide)]
  have old : b_X6_goesOf_87 N (nI q) (nI (kL σ)) (nI z) (rAI (rAI R 118 g) 117 g') = some (nI (min z (1 + kL σ / 10)), rAI (rAI R 118 g) 117 g') := by
    unfold b_X6_goesOf_87
    rw [show (10 : Int32) = nI 10 from rfl, pk_div (by omega) (by decide) (by decide), show (1 : Int32) = nI 1 from rfl, nI_add, itLe (by omega) (by omega)]
    by_cases c : 1 + kL σ / 10 ≤ z
    · rw [if_pos c, Nat.min_eq_right c]
    · rw [if_neg c, Nat.min_eq_left (by omega)]
  have e : kK σ = 0 ∨ kK σ = 1 ∨ kK σ = 2 ∨ kK σ = 3 ∨ kK σ = 4 ∨ kK σ = 5 := by omega
  rcases e with e | e | e | e | e | e <;> rw [e] <;> simp (decide := true) only [if_true, if_false, reduceIte]
  · rw [old]
  · rw [nI_1]
  · rw [old]
  · rw [itLe (by omega) (by omega)]
    by_cases c : kM σ ≤ askN x σ 0
    · rw [if_pos c, Nat.min_eq_right c]
    · rw [if_neg c, Nat.min_eq_left (by omega)]
theorem wears_r {N q i night : Nat} {σ : Sl} {R : Mem} {x : Txt} (hN : 160 < N) (hq : q < 6) (hi : i < 6) (hr : FI R 100 13 = nI i) (hS : RR R q σ) (hw : wfS σ) (hT : RTr R i x) (hx : wfT x) (hn : FI R 100 7 = nI night) (hn2 : night < 100000) : ∃ R', f_X6_wearsOf N (nI q) R = some (nI (wearsS x night σ), R') ∧ (R' = R ∨ ∃ g g', R' = rAI (rAI R 118 g) 117 g') := by
  obtain ⟨g, g', h1⟩ := asks_r hN (by decide : 2 < 3) hq hi hr hS hw hT hx
  obtain ⟨v1, v2⟩ := ask_2 x σ
  obtain ⟨w0, w1, w2, w3, w4, w5, w6, w7, w8⟩ := id hw
  have r0' := hS.1
  obtain ⟨r0, r1, r2, r3, r4, r5, r6, r7, r8⟩ := hS.ga g g'
  have kq : (nI q).toNatClampNeg = q := nI_clamp (by omega)
  have e3 : nI night - nI night / 3 * 3 = nI (night % 3) := remI (d := 3) (by omega) (by decide) (by decide)
  have hn' : FI (rAI (rAI R 118 g) 117 g') 100 7 = nI night := hn
  unfold f_X6_wearsOf b_X6_wearsOf_0
  rw [kq, r0', gdn (n := len 101) (show q < 6 by omega) (by decide), show (2 : Int32) = nI 2 from rfl, h1, bd2_s, r0, r1, v1, hn', e3, gdn (n := len 101) (show q < 6 by omega) (by decide), gdn (n := len 102) (show q < 6 by omega) (by decide)]
  unfold wearsS
  dsimp only
  have e : kK σ = 0 ∨ kK σ = 1 ∨ kK σ = 2 ∨ kK σ = 3 ∨ kK σ = 4 ∨ kK σ = 5 := by omega
  rcases e with e | e | e | e | e | e <;> rw [e] <;> simp (decide := true) only [if_true, if_false, reduceIte]
  · exact ⟨_, rfl, Or.inr ⟨g, g', rfl⟩⟩
  · exact ⟨_, rfl, Or.inr ⟨g, g', rfl⟩⟩
  · rw [nI_add]; exact ⟨_, rfl, Or.inr ⟨g, g', rfl⟩⟩
  · rw [show ((0 : Int32)) = nI 0 from rfl, itEq (by omega) (by decide)]
    split
    · exact ⟨_, rfl, Or.inr ⟨g, g', rfl⟩⟩
    · exact ⟨_, rfl, Or.inr ⟨g, g', rfl⟩⟩
  · exact ⟨_, rfl, Or.inl rfl⟩
  · rw [pk_mul]; exact ⟨_, rfl, Or.inr ⟨g, g', rfl⟩⟩
theorem minds_r {N q i : Nat} {σ : Sl} {R : Mem} {x : Txt} (hN : 160 < N) (hq : q < 6) (hi : i < 6) (hr : FI R 100 13 = nI i) (hS : RR R q σ) (hw : wfS σ) (hT : RTr R i x) (hx : wfT x) : ∃ g g', f_X6_mindsOf N (nI q) R = some (mindsS x σ, rAI (rAI R 118 g) 117 g') := by
  obtain ⟨g, g', h1⟩ := asks_r hN (by decide : 1 < 3) hq hi hr hS hw hT hx
  obtain ⟨w0, w1, w2, w3, w4, w5, w6, w7, w8⟩ := id hw
  obtain ⟨r0, r1, r2, r3, r4, r5, r6, r7, r8⟩ := hS.ga g g'
  have kq : (nI q).toNatClampNeg = q := nI_clamp (by omega)
  have x53 : (5 : Int32) * nI q + 3 = nI (5 * q + 3) := by rw [show (5 : Int32) = nI 5 from rfl, pk_mul]; exact nI_add _ 3
  have k53 : (nI (5 * q + 3)).toNatClampNeg = 5 * q + 3 := nI_clamp (by omega)
  refine ⟨g, g', ?_⟩
  unfold f_X6_mindsOf b_X6_mindsOf_0 b_X6_mindsOf_44
  rw [show (1 : Int32) = nI 1 from rfl, h1, bd2_s, kq, x53, k53, r0, r1, r5, gdn (n := len 101) (show q < 6 by omega) (by decide), gdn (n := len 102) (show q < 6 by omega) (by decide), gdn (n := len 103) (show 5 * q + 3 < 30 by omega) (by decide)]
  unfold mindsS
  dsimp only
  have e : kK σ = 0 ∨ kK σ = 1 ∨ kK σ = 2 ∨ kK σ = 3 ∨ kK σ = 4 ∨ kK σ = 5 := by omega
  rcases e with e | e | e | e | e | e <;> rw [e] <;> simp (decide := true) only [if_true, if_false, reduceIte]
  rw [itLe (by omega) (by omega)]
  by_cases c : kM σ < kT σ
  · rw [if_pos c, if_neg (by omega)]
  · rw [if_neg c, if_pos (by omega)]
