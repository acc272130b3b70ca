/-! L2: text: all three parts, and the state after it -/
theorem W1.wf {l : List Op} (h : W1 l) : wfp 0 l := by
  have := h 0 [] (show wfp 1 [] from rfl)
  rwa [List.append_nil] at this
theorem tP_at {x : Txt} {p k : Nat} (hp : p < 3) (hk : k < (tP x p).length) : (x.1 ++ x.2.1 ++ x.2.2).getD (tB x p + k) (0, 0) = (tP x p).getD k (0, 0) := by
  have e : p = 0 ∨ p = 1 ∨ p = 2 := by omega
  rw [List.getD_eq_getElem?_getD, List.getD_eq_getElem?_getD]
  rcases e with rfl | rfl | rfl
  · have hk' : k < x.1.length := hk
    show ((x.1 ++ x.2.1 ++ x.2.2)[0 + k]?).getD (0, 0) = (x.1[k]?).getD (0, 0)
    rw [List.append_assoc, List.getElem?_append_left (by omega), Nat.zero_add]
  · have hk' : k < x.2.1.length := hk
    show ((x.1 ++ x.2.1 ++ x.2.2)[x.1.length + k]?).getD (0, 0) = (x.2.1[k]?).getD (0, 0)
    rw [List.append_assoc, List.getElem?_append_right (by omega), Nat.add_sub_cancel_left, List.getElem?_append_left (by omega)]
  · have hk' : k < x.2.2.length := hk
    show ((x.1 ++ x.2.1 ++ x.2.2)[x.1.length + x.2.1.length + k]?).getD (0, 0) = (x.2.2[k]?).getD (0, 0)
    rw [List.getElem?_append_right (by rw [List.length_append]; omega), List.length_append, Nat.add_sub_cancel_left]
theorem tE_all {x : Txt} {p : Nat} (hp : p < 3) : tE x p ≤ (x.1 ++ x.2.1 ++ x.2.2).length := by
  have e : p = 0 ∨ p = 1 ∨ p = 2 := by omega
  rw [List.length_append, List.length_append]
  rcases e with rfl | rfl | rfl
  · show 0 + x.1.length ≤ _
    omega
  · show x.1.length + x.2.1.length ≤ _
    omega
  · show x.1.length + x.2.1.length + x.2.2.length ≤ _
    omega
/-- a tape holds a text; which -/
def tOk (b : Nat → Nat) (n : Nat) : Prop := pOk b n 0 0 ∧ pOk b n 1 (pEn b n 0) ∧ pOk b n 2 (pEn b n (pEn b n 0)) ∧ tkA b n (pEn b n (pEn b n (pEn b n 0))) = 302
def tTx (b : Nat → Nat) (n : Nat) : Txt := (pOp b n 0, pOp b n (pEn b n 0), pOp b n (pEn b n (pEn b n 0)))
theorem txt_all {N n tx : Nat} {b : Nat → Nat} {M R : Mem} (hN : 200 < N) (hn : n ≤ 160) (htx : tx < 6) (hb : ∀ k, k < n → b k < 256) (h : TS b n tx M R 0 []) (x1 : Int32) (j2 : Nat) :
    (¬ tOk b n ∧ ∃ u M' R', b_X0_readAll_37 N x1 j2 N (nI 0) M = some (nI u, M') ∧ b_X6_text_26 N N 1 (nI 0) R = some ((-100 : Int32) - nI u, R') ∧ Fc tx M M' ∧ Kt tx R R' ∧ FI R' 100 12 = nI tx ∧ FI R' 100 9 = 0 ∧ u ≤ n) ∨
    (tOk b n ∧ ∃ x M' R', x = tTx b n ∧ b_X0_readAll_37 N x1 j2 N (nI 0) M = some (-1, M') ∧ b_X6_text_26 N N 1 (nI 0) R = some (nI tx, R') ∧ Fc tx M M' ∧ Kt tx R R' ∧ FI R' 100 12 = nI (tx + 1) ∧ FI R' 100 9 = 0 ∧ wfT x ∧ RTc M' (46 + tx) x ∧ RTr R' tx x) := by
  obtain ⟨z, hz⟩ : ∃ z, N = z + 5 := ⟨N - 5, by omega⟩
  rw [show b_X0_readAll_37 N x1 j2 N (nI 0) M = b_X0_readAll_37 N x1 j2 (z + 4 + 1) (nI 0) M from congrArg (fun f => b_X0_readAll_37 N x1 j2 f (nI 0) M) hz, show b_X6_text_26 N N 1 (nI 0) R = b_X6_text_26 N (z + 3 + 2) 1 (nI 0) R from congrArg (fun f => b_X6_text_26 N f 1 (nI 0) R) hz]
  rcases txt_step hN hn htx hb (p := 0) (by decide) h x1 j2 (z + 4) (z + 3) with ⟨g1, q⟩ | ⟨g1, M1, R1, c1, r1, T1, F1, p1, m1, k1, q1, e1, w1⟩
  · exact Or.inl ⟨fun z => g1 z.1, q⟩
  rcases txt_step hN hn htx hb (p := 1) (by decide) T1 x1 j2 (z + 3) (z + 2) with ⟨g2, u, M', R', c2, r2, F2, K2, s2⟩ | ⟨g2, M2, R2, c2, r2, T2, F2, p2, m2, k2, q2, e2, w2⟩
  · exact Or.inl ⟨fun z => g2 z.2.1, u, M', R', c1.trans c2, r1.trans r2, F1.tr F2, k1.tr K2, s2⟩
  rcases txt_step hN hn htx hb (p := 2) (by decide) T2 x1 j2 (z + 2) (z + 1) with ⟨g3, u, M', R', c3, r3, F3, K3, s3⟩ | ⟨g3, M3, R3, c3, r3, T3, F3, p3, m3, k3, q3, e3, w3⟩
  · exact Or.inl ⟨fun z => g3 z.2.2.1, u, M', R', c1.trans (c2.trans c3), r1.trans (r2.trans r3), F1.tr (F2.tr F3), k1.tr (k2.tr K3), s3⟩
  have F := F1.tr (F2.tr F3)
  have htt : tTx b n = (pOp b n 0, pOp b n (pEn b n 0), pOp b n (pEn b n (pEn b n 0))) := rfl
  have htk : tOk b n ↔ tkA b n (pEn b n (pEn b n (pEn b n 0))) = 302 := ⟨fun z => z.2.2.2, fun z => ⟨g1, g2, g3, z⟩⟩
  rw [htt, htk]
  clear htt htk g1 g2 g3
  generalize pEn b n (pEn b n (pEn b n 0)) = a3 at T3 ⊢
  generalize pOp b n 0 = o1 at *
  generalize pOp b n (pEn b n 0) = o2 at *
  generalize pOp b n (pEn b n (pEn b n 0)) = o3 at *
  have K := k1.tr (k2.tr k3)
  rw [c1, c2, c3, r1, r2, r3]
  obtain ⟨hC, hT, h22, h12, h30, hO, hL⟩ := T3
  have han : a3 ≤ n := hC.2.2.2.2.2
  obtain ⟨R4, d1, d2, d3, d4, d5, -, -⟩ := next_r (N := N) (n := n) (b := b) (by omega) hn hb (n - a3) N a3 R3 (by omega) (by omega) hT h22
  have te := te_tab _ (tkA_ok b n a3)
  rw [b_X0_readAll_37, if_pos (show (3 : Int32) ≤ nI 3 from by decide), hC.2.1.2.2.1, show (302 : Int32) = nI 302 from rfl, tk_if (by decide)]
  rw [b_X6_text_26, if_pos (show (3 : Int32) ≤ nI 3 from by decide)]
  unfold b_X6_text_101
  rw [if_neg (show ¬ (1 : Int32) = 0 by decide), show f_X6_next N R3 = some R4 from d1, bind_some_, d5]
  have p12 : FI R4 100 12 = nI tx := (d2.1 12 (by omega)).trans h12
  have p30 : FI R4 100 30 = nI ([] ++ o1 ++ o2 ++ o3).length := (d2.1 30 (by omega)).trans h30
  have K4 := K.tr (Kt.lr d2)
  have K5 : Kt tx R (sFI (sAI R4 108 (4 * tx + 3) (nI ([] ++ o1 ++ o2 ++ o3).length)) 100 9 0) := (K4.tr (Kt.st tx R4 _ (by omega))).tr (Kt.fi tx _ _ (Or.inl rfl))
  have e122 : ∀ v : Int32, b_X6_text_121 N v R4 = b_X6_text_144 N v (sFI (sAI R4 108 (4 * tx + 3) (nI ([] ++ o1 ++ o2 ++ o3).length)) 100 9 0) := by
    intro v
    unfold b_X6_text_121 b_X6_text_122 b_X6_text_139
    rw [p12, show (4 : Int32) * nI tx = nI (4 * tx) from pk_mul 4 tx, show (3 : Int32) = nI 3 from rfl, nI_add, gdn (n := len 108) (show 4 * tx + 3 < 24 by omega) (by decide), nI_clamp (by omega), p30]
  by_cases t : tkA b n a3 = 302
  · right
    rw [if_pos t, if_pos (te.2.2.2.2.mpr t), e122]
    unfold b_X6_text_144 b_X6_text_166
    have f12 : FI (sFI (sAI R4 108 (4 * tx + 3) (nI ([] ++ o1 ++ o2 ++ o3).length)) 100 9 0) 100 12 = nI tx := (FI_n (by decide)).trans p12
    have g8 : AI R3 107 = AI R4 107 := by rw [d2.2.2]
    have g9 : AI R3 108 = AI R4 108 := by rw [d2.2.2]
    rw [if_neg (show ¬ (1 : Int32) = 0 by decide), f12, nI_1, FI_s, nI_pred]
    have hlen : ([] ++ o1 ++ o2 ++ o3).length = o1.length + o2.length + o3.length := by
      rw [List.length_append, List.length_append, List.length_append, List.length_nil, Nat.zero_add]
    refine ⟨t, (o1, o2, o3), M3, _, rfl, rfl, rfl, F, K5.tr (Kt.fi tx _ _ (Or.inr (Or.inl rfl))), FI_s, (FI_n (by decide)).trans FI_s, ⟨fun p hp => ?_, ?_⟩, ⟨fun p hp k hk => ?_, fun p hp => ?_⟩, ⟨fun p hp k hk => ?_, fun p hp => ?_, ?_⟩⟩
    · have e : p = 0 ∨ p = 1 ∨ p = 2 := by omega
      rcases e with rfl | rfl | rfl
      · exact w1.wf
      · exact w2.wf
      · exact w3.wf
    · show o1.length + o2.length + o3.length ≤ 160
      omega
    · have hA := hC.2.2.2.2.1 (tB (o1, o2, o3) p + k) (by
        have : tE (o1, o2, o3) p ≤ (o1 ++ o2 ++ o3).length := tE_all (x := (o1, o2, o3)) hp
        unfold tE at this
        rw [List.nil_append]
        omega)
      rw [List.nil_append, show (o1 ++ o2 ++ o3).getD (tB (o1, o2, o3) p + k) (0, 0) = (tP (o1, o2, o3) p).getD k (0, 0) from tP_at (x := (o1, o2, o3)) hp hk] at hA
      exact hA
    · have e : p = 0 ∨ p = 1 ∨ p = 2 := by omega
      rcases e with rfl | rfl | rfl
      · rw [p3 0 (by decide), p2 0 (by decide), m1]
        show nI _ = nI (0 + o1.length)
        rw [List.nil_append, Nat.zero_add]
      · rw [p3 1 (by decide), m2]
        show nI _ = nI (o1.length + o2.length)
        rw [List.nil_append, List.length_append]
      · rw [m3]
        show nI _ = nI (o1.length + o2.length + o3.length)
        rw [hlen]
    · show AI (sAI R4 108 (4 * tx + 3) _) 107 _ = _
      rw [AI_na (by decide), ← g8, hO _ (by
        have : tE (o1, o2, o3) p ≤ (o1 ++ o2 ++ o3).length := tE_all (x := (o1, o2, o3)) hp
        unfold tE at this
        rw [List.nil_append]
        omega), List.nil_append, show (o1 ++ o2 ++ o3).getD (tB (o1, o2, o3) p + k) (0, 0) = (tP (o1, o2, o3) p).getD k (0, 0) from tP_at (x := (o1, o2, o3)) hp hk]
    · show AI (sAI R4 108 (4 * tx + 3) _) 108 _ = _
      rw [AI_n (by omega), ← g9]
      have e : p = 0 ∨ p = 1 ∨ p = 2 := by omega
      rcases e with rfl | rfl | rfl
      · rw [q3 _ (by omega), q2 _ (by omega), e1]
        rfl
      · rw [q3 _ (by omega), e2]
        show nI _ = nI o1.length
        rw [List.nil_append]
      · rw [e3]
        show nI _ = nI (o1.length + o2.length)
        rw [List.nil_append, List.length_append]
    · show AI (sAI R4 108 (4 * tx + 3) _) 108 _ = _
      rw [AI_s, hlen]
      rfl
  · left
    rw [if_neg t, if_neg (fun y => t (te.2.2.2.2.mp y)), e122]
    unfold b_X6_text_144
    have f23 : FI (sFI (sAI R4 108 (4 * tx + 3) (nI ([] ++ o1 ++ o2 ++ o3).length)) 100 9 0) 100 23 = nI (stA b n a3) := (FI_n (by decide)).trans d4
    rw [if_pos rfl, f23]
    exact ⟨t, stA b n a3, M3, _, by rw [hC.2.1.2.1], rfl, F, K5, (FI_n (by decide)).trans p12, FI_s, (stA_bd (b := b) han).2⟩
