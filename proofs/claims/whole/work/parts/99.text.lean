/-! L2: text -/
/-- only the text tx, the reader and the tape's length are others -/
def Fc (tx : Nat) (M M' : Mem) : Prop := Mx (fun c => c = 72 ∨ c = 46 + tx ∨ c = 46 + tx + 6 ∨ c = 46 + tx + 12 ∨ c = 46 + tx + 18) M M'
theorem Fc.rf (tx : Nat) (M : Mem) : Fc tx M M := Mx.rf _ M
theorem Fc.tr {tx : Nat} {M M1 M2 : Mem} (h : Fc tx M M1) (g : Fc tx M1 M2) : Fc tx M M2 := Mx.tr h g
theorem Fc.fr {tx : Nat} {M M' : Mem} (h : Fr (46 + tx) M M') : Fc tx M M' := Mx.wk h (fun a q => by omega)
theorem Fc.e18 {tx : Nat} {M M' : Mem} (h : Fr (46 + tx) M M') (htx : tx < 6) : AI M' (46 + tx + 18) = AI M (46 + tx + 18) := (h (46 + tx + 18) (show ¬ (46 + tx + 18 = 72 ∨ 46 + tx + 18 = 46 + tx ∨ 46 + tx + 18 = 46 + tx + 6 ∨ 46 + tx + 18 = 46 + tx + 12) by omega)).2.2
theorem Fc.st (tx : Nat) (M : Mem) (k : Nat) (v : Int32) : Fc tx M (sAI M (46 + tx + 18) k v) := fun c hc => ⟨fun _ => rfl, fun _ => rfl, AI_nf (fun q => hc (Or.inr (Or.inr (Or.inr (Or.inr q)))))⟩
theorem CS.st {b : Nat → Nat} {n tx a : Nat} {M : Mem} {L : List Op} (h : CS b n (46 + tx) M a L) (htx : tx < 6) (k : Nat) (v : Int32) : CS b n (46 + tx) (sAI M (46 + tx + 18) k v) a L := by
  obtain ⟨h1, h2, h3, h4, h5, h6⟩ := h
  refine ⟨⟨h1.1, fun k hk => ?_⟩, h2, h3, h4, fun k hk => ?_, h6⟩
  · rw [AI_na (by omega)]; exact h1.2 k hk
  · rw [AI_na (by omega), AI_na (by omega)]; exact h5 k hk
def Kt (i : Nat) (R R' : Mem) : Prop := (∀ k, (k < 22 ∨ (25 < k ∧ k < 28) ∨ 30 < k) → k ≠ 9 → k ≠ 12 → FI R' 100 k = FI R 100 k) ∧ (∀ k, FJ R' 100 k = FJ R 100 k) ∧ (∀ b, b ≠ 107 → b ≠ 108 → b ≠ 116 → AI R' b = AI R b) ∧ (∀ q, q < 200 * i ∨ 200 * i + 200 ≤ q → AI R' 107 q = AI R 107 q) ∧ ∀ q, q < 4 * i ∨ 4 * i + 4 ≤ q → AI R' 108 q = AI R 108 q
theorem Kt.rf (i : Nat) (R : Mem) : Kt i R R := ⟨fun _ _ _ _ => rfl, fun _ => rfl, fun _ _ _ _ => rfl, fun _ _ => rfl, fun _ _ => rfl⟩
theorem Kt.tr {i : Nat} {R R1 R2 : Mem} (h : Kt i R R1) (g : Kt i R1 R2) : Kt i R R2 := ⟨fun k a b c => (g.1 k a b c).trans (h.1 k a b c), fun k => (g.2.1 k).trans (h.2.1 k), fun b h1 h2 h3 => (g.2.2.1 b h1 h2 h3).trans (h.2.2.1 b h1 h2 h3), fun q hq => (g.2.2.2.1 q hq).trans (h.2.2.2.1 q hq), fun q hq => (g.2.2.2.2 q hq).trans (h.2.2.2.2 q hq)⟩
theorem Kt.kv {i : Nat} {R R' : Mem} (h : Kv i R R') : Kt i R R' := ⟨fun k a _ _ => h.1 k a, h.2.1, fun b h1 _ h3 => h.2.2.1 b h1 h3, h.2.2.2, fun q _ => by rw [h.2.2.1 108 (by decide) (by decide)]⟩
theorem Kt.lr {i : Nat} {R R' : Mem} (h : Lr R R') : Kt i R R' := Kt.kv (Kv.lr h)
theorem Kt.st (i : Nat) (R : Mem) {k : Nat} (v : Int32) (h : 4 * i ≤ k ∧ k < 4 * i + 4) : Kt i R (sAI R 108 k v) := ⟨fun _ _ _ _ => rfl, fun _ => rfl, fun b _ hb _ => AI_nf hb, fun q _ => AI_na (by decide), fun q hq => AI_n (by omega)⟩
theorem Kt.fi (i : Nat) (R : Mem) {k : Nat} (v : Int32) (h : k = 9 ∨ k = 12 ∨ k = 22 ∨ k = 30) : Kt i R (sFI R 100 k v) := ⟨fun j a b c => FI_n (by omega), fun _ => rfl, fun _ _ _ _ => rfl, fun _ _ => rfl, fun _ _ => rfl⟩
/-- the reference gives a text up -/
theorem txt_no {N tx fu u q : Nat} {R : Mem} (htx : tx < 6) (h12 : FI R 100 12 = nI tx) (h23 : FI R 100 23 = nI u) : ∃ R', b_X6_text_26 N (fu + 1) 0 (nI q) R = some ((-100 : Int32) - nI u, R') ∧ Kt tx R R' ∧ FI R' 100 12 = nI tx ∧ FI R' 100 9 = 0 := by
  have e : b_X6_text_26 N (fu + 1) 0 (nI q) R = b_X6_text_101 N 0 R := by
    rw [b_X6_text_26]
    by_cases q3 : (3 : Int32) ≤ nI q
    · rw [if_pos q3]
    · rw [if_neg q3, if_pos rfl]
  rw [e]
  unfold b_X6_text_101 b_X6_text_122 b_X6_text_139 b_X6_text_144
  rw [if_pos rfl, if_pos rfl, h12, show (4 : Int32) * nI tx = nI (4 * tx) from pk_mul 4 tx, show (3 : Int32) = nI 3 from rfl, nI_add, gdn (n := len 108) (show 4 * tx + 3 < 24 by omega) (by decide), nI_clamp (by omega)]
  have e23 : FI (sFI (sAI R 108 (4 * tx + 3) (FI R 100 30)) 100 9 0) 100 23 = nI u := (FI_n (by decide)).trans h23
  rw [e23]
  exact ⟨_, rfl, (Kt.st tx R _ (by omega)).tr (Kt.fi tx _ _ (Or.inl rfl)), (FI_n (by decide)).trans h12, FI_s⟩
/-- where both readers of a text stand before part p -/
def TS (b : Nat → Nat) (n tx : Nat) (M R : Mem) (a : Nat) (L : List Op) : Prop := CS b n (46 + tx) M a L ∧ Tr R b n ∧ FI R 100 22 = nI a ∧ FI R 100 12 = nI tx ∧ FI R 100 30 = nI L.length ∧ (∀ k, k < L.length → AI R 107 (200 * tx + k) = nI (encO (L.getD k (0, 0)))) ∧ L.length ≤ a
theorem enc_at {L : List Op} {k : Nat} (h : k < L.length) : (enc L).getD k 0 = encO (L.getD k (0, 0)) := by
  unfold enc
  rw [List.getD_eq_getElem?_getD, List.getD_eq_getElem?_getD, List.getElem?_map, List.getElem?_eq_getElem h]
  rfl
theorem enc_len (L : List Op) : (enc L).length = L.length := List.length_map ..
theorem either_p {N n j : Nat} {b : Nat → Nat} (hN : 160 < N) (hn : n ≤ 160) (hb : ∀ k, k < n → b k < 256) (hj : 46 ≤ j ∧ j < 52) : GC b n j (dPart (tkA b n) (nxA b n) (vlA b n)) (f_X0_readEither N (RKd N 8) (0 : Int32)) := either_g hN hn hb hj
/-- part p from a on is a part; where it ends; its deeds -/
def pOk (b : Nat → Nat) (n p a : Nat) : Prop := tkA b n a = 200 + p ∧ (dPart (tkA b n) (nxA b n) (vlA b n) (nxA b n a)).1 = true ∧ tkA b n (dPart (tkA b n) (nxA b n) (vlA b n) (nxA b n a)).2.1 = 59
def pEn (b : Nat → Nat) (n a : Nat) : Nat := nxA b n (dPart (tkA b n) (nxA b n) (vlA b n) (nxA b n a)).2.1
def pOp (b : Nat → Nat) (n a : Nat) : List Op := (dPart (tkA b n) (nxA b n) (vlA b n) (nxA b n a)).2.2
theorem txt_step {N n tx a p : Nat} {b : Nat → Nat} {M R : Mem} {L : List Op} (hN : 200 < N) (hn : n ≤ 160) (htx : tx < 6) (hb : ∀ k, k < n → b k < 256) (hp : p < 3) (h : TS b n tx M R a L) (x1 : Int32) (j2 fu fr : Nat) :
    (¬ pOk b n p a ∧ ∃ u M' R', b_X0_readAll_37 N x1 j2 (fu + 1) (nI p) M = some (nI u, M') ∧ b_X6_text_26 N (fr + 2) 1 (nI p) R = some ((-100 : Int32) - nI u, R') ∧ Fc tx M M' ∧ Kt tx R R' ∧ FI R' 100 12 = nI tx ∧ FI R' 100 9 = 0 ∧ u ≤ n) ∨
    (pOk b n p a ∧ ∃ M' R', b_X0_readAll_37 N x1 j2 (fu + 1) (nI p) M = b_X0_readAll_37 N x1 j2 fu (nI (p + 1)) M' ∧ b_X6_text_26 N (fr + 2) 1 (nI p) R = b_X6_text_26 N (fr + 1) 1 (nI (p + 1)) R' ∧ TS b n tx M' R' (pEn b n a) (L ++ pOp b n a) ∧ Fc tx M M' ∧ (∀ q, q ≠ p → AI M' (46 + tx + 18) q = AI M (46 + tx + 18) q) ∧ AI M' (46 + tx + 18) p = nI (L ++ pOp b n a).length ∧ Kt tx R R' ∧ (∀ q, q ≠ 4 * tx + p → AI R' 108 q = AI R 108 q) ∧ AI R' 108 (4 * tx + p) = nI L.length ∧ W1 (pOp b n a)) := by
  obtain ⟨hC, hT, h22, h12, h30, hO, hL⟩ := h
  have hj : 46 ≤ 46 + tx ∧ 46 + tx < 52 := by omega
  have han : a ≤ n := hC.2.2.2.2.2
  obtain ⟨s1, s2⟩ := stA_bd (b := b) han
  obtain ⟨R1, a1, a2, a3, a4, a5, -, a7⟩ := next_r (N := N) (n := n) (b := b) (by omega) hn hb (n - a) N a R (by omega) (by omega) hT h22
  have te := te_tab _ (tkA_ok b n a)
  have hk1 : Kt tx R R1 := Kt.lr a2
  have hT1 := hT.lr a2
  have p12 : FI R1 100 12 = nI tx := (a2.1 12 (by omega)).trans h12
  have p30 : FI R1 100 30 = nI L.length := (a2.1 30 (by omega)).trans h30
  rw [b_X0_readAll_37, if_neg (show ¬ (3 : Int32) ≤ nI p from nI_ge (b := 3) (by omega) (by decide)), hC.2.1.2.2.1, show (200 : Int32) = nI 200 from rfl, nI_add, tk_if (by omega)]
  rw [b_X6_text_26, if_neg (show ¬ (3 : Int32) ≤ nI p from nI_ge (b := 3) (by omega) (by decide)), if_neg (show ¬ (1 : Int32) = 0 by decide), show f_X6_next N R = some R1 from a1, bind_some_, a5]
  have wr : ∀ (t0 : Int32) (K : Int32 → Int32 → Mem → Option (Int32 × Mem)), b_X6_text_60 N K (nI p) t0 R1 = b_X6_text_78 N K t0 (nI p) (sAI R1 108 (4 * tx + p) (nI L.length)) := by
    intro t0 K
    unfold b_X6_text_60
    rw [p12, show (4 : Int32) * nI tx = nI (4 * tx) from pk_mul 4 tx, nI_add, gdn (n := len 108) (show 4 * tx + p < 24 by omega) (by decide), nI_clamp (by omega), p30]
  have hk2 : Kt tx R (sAI R1 108 (4 * tx + p) (nI L.length)) := hk1.tr (Kt.st tx R1 _ (by omega))
  by_cases t : tkA b n a = 200 + p
  · have t3 : tkA b n a = 200 ∨ tkA b n a = 201 ∨ tkA b n a = 202 := by omega
    rw [if_pos t, if_pos (te.2.2.2.1.mpr t3), a7 t3, if_pos (show nI (tkA b n a - 200) = nI p by rw [t, Nat.add_sub_cancel_left]), wr]
    unfold b_X6_text_78
    rw [if_neg (show ¬ (1 : Int32) = 0 by decide)]
    obtain ⟨M1, c1, c2, c3, c4⟩ := adv_s (N := N) (by omega) hn hb hj hC (by omega)
    obtain ⟨M2, d1, d2, d3⟩ := either_p (N := N) (n := n) (j := 46 + tx) (b := b) (by omega) hn hb hj 1 M1 (nxA b n a) L c3 (by omega)
    rw [c1, bind_some_, d1, bd2_s]
    have hn2 : nxA b n a ≤ n := c3.2.2.2.2.2
    have hK := part_k hn (pg_ab b n) hn2 []
    change (dPart (tkA b n) (nxA b n) (vlA b n) (nxA b n a)).2.1 ≤ n ∧ _ at hK
    obtain ⟨k1, -, k3⟩ := hK
    have hT2 : Tr (sAI R1 108 (4 * tx + p) (nI L.length)) b n := ⟨hT1.1, fun k hk => by
      rw [show AI (sAI R1 108 (4 * tx + p) (nI L.length)) 106 k = AI R1 106 k from AI_na (by decide)]; exact hT1.2.1 k hk, fun k hk => by
      rw [show AI (sAI R1 108 (4 * tx + p) (nI L.length)) 115 k = AI R1 115 k from AI_na (by decide)]; exact hT1.2.2 k hk⟩
    obtain ⟨R2, f1, f2, f3, f4⟩ := part_r (N := N) (R := sAI R1 108 (4 * tx + p) (nI L.length)) hN hn htx hb hn2 hT2 a3 p12 (enc L) (by rw [enc_len]; omega) (by rw [enc_len]; exact p30) (fun k hk => by
      rw [enc_len] at hk
      rw [show AI (sAI R1 108 (4 * tx + p) (nI L.length)) 107 (200 * tx + k) = AI R1 107 (200 * tx + k) from AI_na (by decide), a2.2.2, enc_at hk]
      exact hO k hk) rfl
    rw [f1, bd2_s]
    have hk3 : Kt tx R R2 := hk2.tr (Kt.kv f2)
    have q12 : FI R2 100 12 = nI tx := (f2.1 12 (by omega)).trans p12
    have e8 : AI R2 108 = AI (sAI R1 108 (4 * tx + p) (nI L.length)) 108 := f2.2.2.1 108 (by decide) (by decide)
    have hok : ∀ d, dPart (tkA b n) (nxA b n) (vlA b n) (nxA b n a) = d → (pOk b n p a ↔ (d.1 = true ∧ tkA b n d.2.1 = 59)) ∧ pEn b n a = nxA b n d.2.1 ∧ pOp b n a = d.2.2 := by
      rintro d rfl
      exact ⟨⟨fun z => z.2, fun z => ⟨t, z⟩⟩, rfl, rfl⟩
    generalize hd : dPart (tkA b n) (nxA b n) (vlA b n) (nxA b n a) = d at d3 k1 k3 f3 f4 ⊢
    obtain ⟨hk1', hk2', hk3'⟩ := hok d hd
    rw [hk1', hk2', hk3']
    clear hok hd hk1' hk2' hk3'
    obtain ⟨ok, u, ops⟩ := d
    dsimp only at d3 k1 k3 f3 f4 ⊢
    have no : FI M2 72 3 = nI (stA b n u) → (ok = false ∨ tkA b n u ≠ 59) → (ok = true → FI M2 72 4 = nI (tkA b n u)) → (∃ y M' R', (if ok = true then (if FI M2 72 4 = (59 : Int32) then gd (isK (RF M2) 3) (gd (isK (RF M2) 3) (gd (inb (nI p) (len ((RF M2) + 18))) (b_X0_readAll_101 N x1 j2 (b_X0_readAll_37 N x1 j2 fu) (nI p) (sAI M2 ((RF M2) + 18) (nI p).toNatClampNeg (FI M2 (RF M2) 4))))) else b_X0_readAll_80 N x1 j2 M2) else b_X0_readAll_80 N x1 j2 M2) = some (nI y, M') ∧ (if decide (ok = true ∧ tkA b n u = 59) = true then b_X6_text_94 N (b_X6_text_26 N (fr + 1)) (nI p) (1 : Int32) R2 else b_X6_text_93 N (b_X6_text_26 N (fr + 1)) (nI p) R2) = some ((-100 : Int32) - nI y, R') ∧ Fc tx M M' ∧ Kt tx R R' ∧ FI R' 100 12 = nI tx ∧ FI R' 100 9 = 0 ∧ y ≤ n) := by
      intro h1 h2 h4
      obtain ⟨R3, r1, r2, r3, r4⟩ := txt_no (N := N) (fu := fr) (q := p + 1) htx q12 f3
      refine ⟨stA b n u, M2, R3, ?_, ?_, Fc.fr (c2.tr d2), hk3.tr r2, r3, r4, (stA_bd (b := b) k1).2⟩
      · unfold b_X0_readAll_80
        rw [h1]
        by_cases q : ok = true
        · rw [if_pos q, h4 q, show (59 : Int32) = nI 59 from rfl, tk_if (by decide), if_neg (h2.resolve_left (fun z => by rw [q] at z; cases z))]
        · rw [if_neg q]
      · rw [if_neg (fun z => by
          have := of_decide_eq_true z
          rcases h2 with q | q
          · rw [this.1] at q; cases q
          · exact q this.2)]
        unfold b_X6_text_93 b_X6_text_94
        rw [nI_1]
        exact r1
    by_cases q : ok = true
    · rw [if_pos q] at d3
      obtain ⟨g1, g2, g3⟩ := d3
      by_cases q2 : tkA b n u = 59
      · right
        have q9 := f4 ⟨q, q2⟩
        obtain ⟨v1, v2, v3, v4, -⟩ := q9
        have i18 : len (46 + tx + 18) = 3 := n_3_2 (kd_t htx)
        have g1' := g1.st htx p (nI (L ++ ops).length)
        obtain ⟨M4, w1, w2, w3, w4⟩ := adv_s (N := N) (by omega) hn hb hj g1' (by omega)
        refine ⟨⟨q, q2⟩, M4, R2, ?_, ?_, ⟨w3, ⟨(f2.1 9 (by omega)).trans hT2.1, fun k hk => ?_, fun k hk => ?_⟩, v1, q12, ?_, fun k hk => ?_, by omega⟩, ((Fc.fr (c2.tr d2)).tr (Fc.st tx M2 _ _)).tr (Fc.fr w2), fun y hy => ?_, ?_, hk3, fun y hy => ?_, ?_, (k3 q).1⟩
        · rw [if_pos q, g1.2.1.2.2.1, show (59 : Int32) = nI 59 from rfl, tk_if (by decide), if_pos q2, g1.2.2.1, gd_t (isj hj), gd_t (isj hj), gd_t (by rw [i18]; exact inb_nI hp (by decide)), nI_clamp (by omega), g1.2.2.2.1]
          unfold b_X0_readAll_101
          rw [w1, bind_some_, nI_1]
        · rw [if_pos (decide_eq_true ⟨q, q2⟩)]
          unfold b_X6_text_94
          rw [nI_1]
        · rw [f2.2.2.1 106 (by decide) (by decide)]; exact hT2.2.1 k hk
        · rw [f2.2.2.1 115 (by decide) (by decide)]; exact hT2.2.2 k hk
        · rw [v2, ← enc_a, enc_len]
        · rw [← enc_a] at v3
          rw [v3 k (by rw [enc_len]; exact hk), enc_at hk]
        · rw [Fc.e18 w2 htx, AI_n hy, Fc.e18 d2 htx, Fc.e18 c2 htx]
        · rw [Fc.e18 w2 htx, AI_s]
        · rw [e8, AI_n hy, a2.2.2]
        · rw [e8, AI_s]
      · left
        exact ⟨fun z => q2 z.2, no g1.2.1.2.1 (Or.inr q2) (fun _ => g1.2.1.2.2.1)⟩
    · left
      rw [if_neg q] at d3
      rw [Bool.not_eq_true] at q
      exact ⟨fun z => (by rw [q] at z; cases z.1), no d3.1 (Or.inl q) (fun z => by rw [q] at z; cases z)⟩
  · left
    rw [if_neg t]
    have go : (if teI (tkA b n a) = (3 : Int32) then (if (FI R1 100 25) = nI p then b_X6_text_60 N (b_X6_text_26 N (fr + 1)) (nI p) (1 : Int32) R1 else b_X6_text_59 N (b_X6_text_26 N (fr + 1)) (nI p) R1) else b_X6_text_59 N (b_X6_text_26 N (fr + 1)) (nI p) R1) = b_X6_text_59 N (b_X6_text_26 N (fr + 1)) (nI p) R1 := by
      by_cases t3 : tkA b n a = 200 ∨ tkA b n a = 201 ∨ tkA b n a = 202
      · rw [if_pos (te.2.2.2.1.mpr t3), a7 t3, if_neg (show ¬ nI (tkA b n a - 200) = nI p from fun z => by
          have := (nI_eq (by omega) (by omega)).mp z
          omega)]
      · rw [if_neg (fun z => t3 (te.2.2.2.1.mp z))]
    rw [go]
    unfold b_X6_text_59
    rw [wr]
    unfold b_X6_text_78 b_X6_text_93 b_X6_text_94
    rw [if_pos rfl, nI_1]
    obtain ⟨R3, r1, r2, r3, r4⟩ := txt_no (N := N) (fu := fr) (q := p + 1) (R := sAI R1 108 (4 * tx + p) (nI L.length)) htx p12 a4
    exact ⟨fun z => t z.1, stA b n a, M, R3, by rw [hC.2.1.2.1], r1, Fc.rf tx M, hk2.tr r2, r3, r4, s2⟩
