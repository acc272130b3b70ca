/-! L2: one's night: the reference -/
def RR (R : Mem) (p : Nat) (σ : Sl) : Prop := AI R 101 p = nI (kK σ) ∧ AI R 102 p = nI (kM σ) ∧ AI R 103 (5 * p) = nI (kC σ) ∧ AI R 103 (5 * p + 1) = nI (kW σ) ∧ AI R 103 (5 * p + 2) = nI (kN σ) ∧ AI R 103 (5 * p + 3) = nI (kT σ) ∧ AI R 103 (5 * p + 4) = nI (kL σ) ∧ AI R 105 p = nI (kS σ).length ∧ ∀ k, k < (kS σ).length → AI R 104 (16 * p + k) = nI ((kS σ).getD k 0)
theorem AI_n {R : Mem} {a b k j : Nat} {v : Int32} (h : j ≠ k) : AI (sAI R a k v) b j = AI R b j := by rw [AI_sAI, if_neg (fun q => h q.2)]
theorem AI_na {R : Mem} {a b k j : Nat} {v : Int32} (h : b ≠ a) : AI (sAI R a k v) b j = AI R b j := by rw [AI_sAI, if_neg (fun q => h q.1)]
theorem AI_nf {R : Mem} {a b k : Nat} {v : Int32} (h : b ≠ a) : AI (sAI R a k v) b = AI R b := by funext j; exact AI_na h
theorem AI_s {R : Mem} {a k : Nat} {v : Int32} : AI (sAI R a k v) a k = v := by rw [AI_sAI, if_pos ⟨rfl, rfl⟩]
theorem AJ_s {R : Mem} {a k : Nat} {v : Int64} : AJ (sAJ R a k v) a k = v := by rw [AJ_sAJ, if_pos ⟨rfl, rfl⟩]
theorem AJ_n {R : Mem} {a b k j : Nat} {v : Int64} (h : j ≠ k) : AJ (sAJ R a k v) b j = AJ R b j := by rw [AJ_sAJ, if_neg (fun q => h q.2)]
theorem RR.s2 {R : Mem} {p : Nat} {σ : Sl} (h : RR R p σ) (v : Nat) : RR (sAI R 103 (5 * p) (nI v)) p (mkS (kK σ) (kM σ) v (kW σ) (kN σ) (kT σ) (kL σ) (kS σ)) := by
  obtain ⟨r0, r1, r2, r3, r4, r5, r6, r7, r8⟩ := h
  exact ⟨(AI_na (by decide)).trans r0, (AI_na (by decide)).trans r1, AI_s, (AI_n (by omega)).trans r3, (AI_n (by omega)).trans r4, (AI_n (by omega)).trans r5, (AI_n (by omega)).trans r6, (AI_na (by decide)).trans r7, fun k hk => (AI_na (by decide)).trans (r8 k hk)⟩
theorem RR.s3 {R : Mem} {p : Nat} {σ : Sl} (h : RR R p σ) (v : Nat) : RR (sAI R 103 (5 * p + 1) (nI v)) p (mkS (kK σ) (kM σ) (kC σ) v (kN σ) (kT σ) (kL σ) (kS σ)) := by
  obtain ⟨r0, r1, r2, r3, r4, r5, r6, r7, r8⟩ := h
  exact ⟨(AI_na (by decide)).trans r0, (AI_na (by decide)).trans r1, (AI_n (by omega)).trans r2, AI_s, (AI_n (by omega)).trans r4, (AI_n (by omega)).trans r5, (AI_n (by omega)).trans r6, (AI_na (by decide)).trans r7, fun k hk => (AI_na (by decide)).trans (r8 k hk)⟩
theorem RR.s4 {R : Mem} {p : Nat} {σ : Sl} (h : RR R p σ) (v : Nat) : RR (sAI R 103 (5 * p + 2) (nI v)) p (mkS (kK σ) (kM σ) (kC σ) (kW σ) v (kT σ) (kL σ) (kS σ)) := by
  obtain ⟨r0, r1, r2, r3, r4, r5, r6, r7, r8⟩ := h
  exact ⟨(AI_na (by decide)).trans r0, (AI_na (by decide)).trans r1, (AI_n (by omega)).trans r2, (AI_n (by omega)).trans r3, AI_s, (AI_n (by omega)).trans r5, (AI_n (by omega)).trans r6, (AI_na (by decide)).trans r7, fun k hk => (AI_na (by decide)).trans (r8 k hk)⟩
theorem RR.s5 {R : Mem} {p : Nat} {σ : Sl} (h : RR R p σ) (v : Nat) : RR (sAI R 103 (5 * p + 3) (nI v)) p (mkS (kK σ) (kM σ) (kC σ) (kW σ) (kN σ) v (kL σ) (kS σ)) := by
  obtain ⟨r0, r1, r2, r3, r4, r5, r6, r7, r8⟩ := h
  exact ⟨(AI_na (by decide)).trans r0, (AI_na (by decide)).trans r1, (AI_n (by omega)).trans r2, (AI_n (by omega)).trans r3, (AI_n (by omega)).trans r4, AI_s, (AI_n (by omega)).trans r6, (AI_na (by decide)).trans r7, fun k hk => (AI_na (by decide)).trans (r8 k hk)⟩
theorem RR.s6 {R : Mem} {p : Nat} {σ : Sl} (h : RR R p σ) (v : Nat) : RR (sAI R 103 (5 * p + 4) (nI v)) p (mkS (kK σ) (kM σ) (kC σ) (kW σ) (kN σ) (kT σ) v (kS σ)) := by
  obtain ⟨r0, r1, r2, r3, r4, r5, r6, r7, r8⟩ := h
  exact ⟨(AI_na (by decide)).trans r0, (AI_na (by decide)).trans r1, (AI_n (by omega)).trans r2, (AI_n (by omega)).trans r3, (AI_n (by omega)).trans r4, (AI_n (by omega)).trans r5, AI_s, (AI_na (by decide)).trans r7, fun k hk => (AI_na (by decide)).trans (r8 k hk)⟩
/-- R' is R but for p's row, miles, where it came to, and what is never read before it is written -/
def Ms (R R' : Mem) (p : Nat) : Prop := (∀ k, k ≠ 34 → FI R' 100 k = FI R 100 k) ∧ (∀ k, FJ R' 100 k = FJ R 100 k) ∧ (∀ b, b ≠ 103 → b ≠ 117 → b ≠ 118 → AI R' b = AI R b) ∧ (∀ q, q < 5 * p ∨ 5 * p + 5 ≤ q → AI R' 103 q = AI R 103 q) ∧ ∀ q, q ≠ p → AJ R' 119 q = AJ R 119 q
theorem Ms.rf (R : Mem) (p : Nat) : Ms R R p := ⟨fun _ _ => rfl, fun _ => rfl, fun _ _ _ _ => rfl, fun _ _ => rfl, fun _ _ => rfl⟩
theorem Ms.tr {R R1 R2 : Mem} {p : Nat} (h : Ms R R1 p) (g : Ms R1 R2 p) : Ms R R2 p := ⟨fun k hk => (g.1 k hk).trans (h.1 k hk), fun k => (g.2.1 k).trans (h.2.1 k), fun b h1 h2 h3 => (g.2.2.1 b h1 h2 h3).trans (h.2.2.1 b h1 h2 h3), fun q hq => (g.2.2.2.1 q hq).trans (h.2.2.2.1 q hq), fun q hq => (g.2.2.2.2 q hq).trans (h.2.2.2.2 q hq)⟩
theorem Ms.row (R : Mem) {p k : Nat} (v : Int32) (h1 : 5 * p ≤ k) (h2 : k < 5 * p + 5) : Ms R (sAI R 103 k v) p := ⟨fun _ _ => rfl, fun _ => rfl, fun b hb _ _ => AI_nf hb, fun q hq => AI_n (by omega), fun _ _ => rfl⟩
theorem Ms.mi (R : Mem) (p : Nat) (v : Int32) : Ms R (sFI R 100 34 v) p := ⟨fun k hk => FI_n hk, fun _ => rfl, fun _ _ _ _ => rfl, fun _ _ => rfl, fun _ _ => rfl⟩
theorem Ms.ca (R : Mem) (p : Nat) (v : Int64) : Ms R (sAJ R 119 p v) p := ⟨fun _ _ => rfl, fun _ => rfl, fun _ _ _ _ => rfl, fun _ _ => rfl, fun q hq => AJ_n hq⟩
theorem Ms.ga (R : Mem) (p : Nat) (g g' : Nat → Int32) : Ms R (rAI (rAI R 118 g) 117 g') p := ⟨fun _ _ => rfl, fun _ => rfl, fun b _ h2 h3 => by rw [AI_rAI_n _ _ h2, AI_rAI_n _ _ h3], fun q hq => by rw [AI_rAI_n _ _ (by decide), AI_rAI_n _ _ (by decide)], fun _ _ => rfl⟩
theorem RR.ga {R : Mem} {p : Nat} {σ : Sl} (h : RR R p σ) (g g' : Nat → Int32) : RR (rAI (rAI R 118 g) 117 g') p σ := h
theorem sm_c : ∀ k, k < 64 → (((nI k).toInt64 &&& 63).toBitVec.smod 64).toNat = k := by decide +kernel
theorem us_c : ∀ k, k < 64 → (((nI k).toInt64.toUInt64 &&& Int64.toUInt64 63).toBitVec % 64).toNat = k := by decide +kernel
theorem and1_0 (x : Int64) : (x &&& 1 = 0) ↔ x.toBitVec.getLsbD 0 = false := by
  rw [← Int64.toBitVec_inj, Int64.toBitVec_and]
  show (x.toBitVec &&& 1#64) = 0#64 ↔ _
  rw [BitVec.and_one_eq_setWidth_ofBool_getLsbD]
  cases x.toBitVec.getLsbD 0 <;> simp
theorem and1_1 (x : Int64) : (x &&& 1 = 1) ↔ x.toBitVec.getLsbD 0 = true := by
  rw [← Int64.toBitVec_inj, Int64.toBitVec_and]
  show (x.toBitVec &&& 1#64) = 1#64 ↔ _
  rw [BitVec.and_one_eq_setWidth_ofBool_getLsbD]
  cases x.toBitVec.getLsbD 0 <;> simp
theorem wetB_bit (w : Int64) {c : Nat} (hc : c < 64) : wetB w c = w.toBitVec.getLsbD c := by
  unfold wetB
  have h1 := and1_0 ((w.toUInt64 >>> ((nI c).toInt64.toUInt64 &&& Int64.toUInt64 63)).toInt64)
  have h2 : (w.toUInt64 >>> ((nI c).toInt64.toUInt64 &&& Int64.toUInt64 63)).toInt64.toBitVec.getLsbD 0 = w.toBitVec.getLsbD c := by
    show ((w.toUInt64 >>> ((nI c).toInt64.toUInt64 &&& Int64.toUInt64 63)).toBitVec).getLsbD 0 = _
    rw [UInt64.toBitVec_shiftRight, BitVec.ushiftRight_eq', BitVec.getLsbD_ushiftRight, us_c c hc]
    simp
  rw [h2] at h1
  cases hb : w.toBitVec.getLsbD c
  · rw [hb] at h1
    simp [h1]
  · rw [hb] at h1
    simp [h1]
theorem water_r {R : Mem} {w : Int64} (hW : FJ R 100 6 = w) {c : Nat} (hc : c < 64) : f_X6_isWet (nI c) R = some (wetB w c) := by
  unfold f_X6_isWet b_X6_isWet_0
  rw [hW, wetB_bit w hc]
  have h1 := and1_1 (w >>> ((nI c).toInt64 &&& 63))
  have h2 : (w >>> ((nI c).toInt64 &&& 63)).toBitVec.getLsbD 0 = w.toBitVec.getLsbD c := by
    rw [Int64.toBitVec_shiftRight, BitVec.sshiftRight_eq', BitVec.getLsbD_sshiftRight, sm_c c hc]
    simp [hc]
  rw [h2] at h1
  by_cases q : (w >>> ((nI c).toInt64 &&& 63)) &&& (1 : Int64) = 1
  · rw [if_pos (by rw [lg_cmp_0]; exact q), h1.mp q]
  · rw [if_neg (by rw [lg_cmp_0]; exact q)]
    cases hb : w.toBitVec.getLsbD c
    · rfl
    · exact absurd (h1.mpr hb) q
theorem thatWay_r {c way : Nat} (hc : c < 64) (hw : way < 4) (R : Mem) : f_X6_thatWay (nI c) (nI way) R = some (resI (besN c way)) := by
  unfold f_X6_thatWay b_X6_thatWay_0 besN
  rw [show (8 : Int32) = nI 8 from rfl, remI (by omega) (by decide) (by decide)]
  have e : way = 0 ∨ way = 1 ∨ way = 2 ∨ way = 3 := by omega
  rcases e with e | e | e | e <;> rw [e] <;> simp (decide := true) only [if_true, if_false, reduceIte]
  · rw [show (7 : Int32) = nI 7 from rfl, itLe (by omega) (by omega)]
    by_cases q : c % 8 + 1 < 8
    · rw [if_neg (by omega), if_pos q, nI_1]; rfl
    · rw [if_pos (by omega), if_neg q]; rfl
  · rw [show (56 : Int32) = nI 56 from rfl, itLe (by omega) (by omega)]
    by_cases q : c / 8 + 1 < 8
    · rw [if_neg (by omega), if_pos q, nI_add]; rfl
    · rw [if_pos (by omega), if_neg q]; rfl
  · rw [show ((0 : Int32)) = nI 0 from rfl, itLe (by omega) (by omega)]
    by_cases q : 0 < c % 8
    · rw [if_neg (by omega), if_pos q, show (1 : Int32) = nI 1 from rfl, pk_sub (by omega)]; rfl
    · rw [if_pos (by omega), if_neg q]; rfl
  · rw [show ((7 : Int32)) = nI 7 from rfl, itLe (by omega) (by omega)]
    by_cases q : 0 < c / 8
    · rw [if_neg (by omega), if_pos q, pk_sub (by omega)]; rfl
    · rw [if_pos (by omega), if_neg q]; rfl
theorem within_r {n lo hi : Nat} (h1 : lo ≤ n) (hn : n < 2 ^ 31) (hh : hi < 2 ^ 31) (R : Mem) : f_X6_within (nI n) (nI lo) (nI hi) R = some (nI (min hi n)) := by
  unfold f_X6_within b_X6_within_0
  rw [itLe (by omega) (by omega), if_pos h1, itLe (by omega) (by omega)]
  by_cases q : n ≤ hi
  · rw [if_pos q, Nat.min_eq_right q]
  · rw [if_neg q, Nat.min_eq_left (by omega)]
theorem stitch_r {R : Mem} {p : Nat} {σ : Sl} {w : Int64} (hp : p < 6) (hS : RR R p σ) (hw : wfS σ) (hW : FJ R 100 6 = w) : ∃ R', f_X6_stitches (nI p) R = some ((stepS w σ).1, R') ∧ RR R' p (stepS w σ).2 ∧ Ms R R' p ∧ FI R' 100 34 = (if (stepS w σ).1 = true then FI R 100 34 + 1 else FI R 100 34) ∧ AJ R' 119 p = (if (stepS w σ).1 = true then AJ R 119 p ||| bitL (kC (stepS w σ).2) else AJ R 119 p) := by
  obtain ⟨w0, w1, w2, w3, w4, w5, w6, w7, w8⟩ := id hw
  have hst5 := w8 _ w4
  obtain ⟨r0, r1, r2, r3, r4, r5, r6, r7, r8⟩ := id hS
  have x50 : (5 : Int32) * nI p = nI (5 * p) := pk_mul 5 p
  have x51 : nI (5 * p) + 1 = nI (5 * p + 1) := nI_1 _
  have x52 : nI (5 * p) + 2 = nI (5 * p + 2) := nI_add _ 2
  have x53 : nI (5 * p) + 3 = nI (5 * p + 3) := nI_add _ 3
  have x16 : (16 : Int32) * nI p + nI (kN σ) = nI (16 * p + kN σ) := by rw [show (16 : Int32) = nI 16 from rfl, pk_mul, nI_add]
  have k50 : (nI (5 * p)).toNatClampNeg = 5 * p := nI_clamp (by omega)
  have k51 : (nI (5 * p + 1)).toNatClampNeg = 5 * p + 1 := nI_clamp (by omega)
  have k52 : (nI (5 * p + 2)).toNatClampNeg = 5 * p + 2 := nI_clamp (by omega)
  have k53 : (nI (5 * p + 3)).toNatClampNeg = 5 * p + 3 := nI_clamp (by omega)
  have kp : (nI p).toNatClampNeg = p := nI_clamp (by omega)
  unfold f_X6_stitches b_X6_stitches_0
  rw [x50, x52, k52, r4, x16, gdn (n := len 103) (show 5 * p + 2 < 30 by omega) (by decide), gdn (n := len 104) (show 16 * p + kN σ < 96 by omega) (by decide), nI_clamp (show 16 * p + kN σ < 2 ^ 31 by omega), r8 _ w4]
  unfold b_X6_stitches_21
  rw [x50, x52, k52, r4, kp, r7, gdn (n := len 103) (show 5 * p + 2 < 30 by omega) (by decide), gdn (n := len 105) (show p < 6 by omega) (by decide), gdn (n := len 103) (show 5 * p + 2 < 30 by omega) (by decide), nI_1, itEq (by omega) (by omega)]
  have e67 : (if kN σ + 1 = (kS σ).length then b_X6_stitches_67 (nI p) (nI ((kS σ).getD (kN σ) 0)) (nI (5 * p + 2)) 0 R else b_X6_stitches_67 (nI p) (nI ((kS σ).getD (kN σ) 0)) (nI (5 * p + 2)) (nI (kN σ + 1)) R) = b_X6_stitches_68 (nI p) (nI ((kS σ).getD (kN σ) 0)) (sAI R 103 (5 * p + 2) (nI (if kN σ + 1 < (kS σ).length then kN σ + 1 else 0))) := by
    unfold b_X6_stitches_67
    rw [gdn (n := len 103) (show 5 * p + 2 < 30 by omega) (by decide), gdn (n := len 103) (show 5 * p + 2 < 30 by omega) (by decide), k52]
    by_cases q : kN σ + 1 < (kS σ).length
    · rw [if_neg (by omega), if_pos q]
    · rw [if_pos (by omega), if_neg q]; rfl
  rw [e67]
  unfold stepS
  dsimp only
  generalize hnx : (if kN σ + 1 < (kS σ).length then kN σ + 1 else 0) = nx
  generalize hsv : (kS σ).getD (kN σ) 0 = st at hst5
  have R1 := hS.s4 nx
  have M1 := Ms.row R (p := p) (k := 5 * p + 2) (nI nx) (by omega) (by omega)
  unfold b_X6_stitches_68
  by_cases s3 : st = 3
  · rw [if_pos (by rw [s3]; rfl), if_pos s3]
    exact ⟨_, rfl, R1, M1, rfl, rfl⟩
  · rw [if_neg (show ¬ nI st = 3 from fun q => s3 ((nI_eq (by omega) (by decide)).mp q)), if_neg s3]
    have tail : ∀ (d way : Nat) (ρ : Bool × Sl), d < 4 → way = (kW σ + d) % 4 →
        ρ = (match besN (kC σ) way with | none => (false, mkS (kK σ) (kM σ) (kC σ) way nx (kT σ) (kL σ) (kS σ)) | some c => if st ≠ 4 ∧ wetB w c = true then (false, mkS (kK σ) (kM σ) (kC σ) way nx (min 99 (kT σ + 1)) (kL σ) (kS σ)) else (true, mkS (kK σ) (kM σ) c way nx (kT σ) (kL σ) (kS σ))) →
        ∃ R', b_X6_stitches_94 (nI p) (nI st) (nI d) (sAI R 103 (5 * p + 2) (nI nx)) = some (ρ.1, R') ∧ RR R' p ρ.2 ∧ Ms R R' p ∧ FI R' 100 34 = (if ρ.1 = true then FI R 100 34 + 1 else FI R 100 34) ∧ AJ R' 119 p = (if ρ.1 = true then AJ R 119 p ||| bitL (kC ρ.2) else AJ R 119 p) := by
      intro d way ρ hd hway hρ
      have hw4 : way < 4 := by rw [hway]; exact Nat.mod_lt _ (by decide)
      unfold b_X6_stitches_94
      have q3 : AI (sAI R 103 (5 * p + 2) (nI nx)) 103 (5 * p + 1) = nI (kW σ) := R1.2.2.2.1
      rw [x50, x51, k51, q3, gdn (n := len 103) (show 5 * p + 1 < 30 by omega) (by decide), gdn (n := len 103) (show 5 * p + 1 < 30 by omega) (by decide), nI_add, show (4 : Int32) = nI 4 from rfl, remI (by omega) (by decide) (by decide), ← hway]
      have R2 := R1.s3 way
      have M2 := M1.tr (Ms.row (sAI R 103 (5 * p + 2) (nI nx)) (p := p) (k := 5 * p + 1) (nI way) (by omega) (by omega))
      have hW2 : FJ (sAI (sAI R 103 (5 * p + 2) (nI nx)) 103 (5 * p + 1) (nI way)) 100 6 = w := hW
      have hm2 : FI (sAI (sAI R 103 (5 * p + 2) (nI nx)) 103 (5 * p + 1) (nI way)) 100 34 = FI R 100 34 := rfl
      have hj2 : AJ (sAI (sAI R 103 (5 * p + 2) (nI nx)) 103 (5 * p + 1) (nI way)) 119 p = AJ R 119 p := rfl
      generalize (sAI (sAI R 103 (5 * p + 2) (nI nx)) 103 (5 * p + 1) (nI way)) = S at R2 M2 hW2 hm2 hj2
      have u2 : AI S 103 (5 * p) = nI (kC σ) := R2.2.2.1
      have u3 : AI S 103 (5 * p + 1) = nI way := R2.2.2.2.1
      have u5 : AI S 103 (5 * p + 3) = nI (kT σ) := R2.2.2.2.2.2.1
      unfold b_X6_stitches_119
      rw [x50, x51, x53, k50, k51, k53, u2, u3, u5, gdn (n := len 103) (show 5 * p < 30 by omega) (by decide), gdn (n := len 103) (show 5 * p + 1 < 30 by omega) (by decide), thatWay_r w2 hw4, bind_some_]
      cases hc : besN (kC σ) way with
      | none =>
        rw [hc] at hρ
        dsimp only at hρ
        subst hρ
        rw [show (resI none) = -1 from rfl, if_pos rfl]
        exact ⟨S, rfl, R2, M2, hm2, hj2⟩
      | some c =>
        have hc64 := besN_lt w2 hc
        rw [hc] at hρ
        dsimp only at hρ
        have mv : ∃ R', b_X6_stitches_194 (nI p) (nI c) S = some (true, R') ∧ RR R' p (mkS (kK σ) (kM σ) c way nx (kT σ) (kL σ) (kS σ)) ∧ Ms R R' p ∧ FI R' 100 34 = FI R 100 34 + 1 ∧ AJ R' 119 p = AJ R 119 p ||| bitL c := by
          unfold b_X6_stitches_194 b_X6_stitches_204 b_X6_stitches_214
          rw [x50, k50, kp, gdn (n := len 103) (show 5 * p < 30 by omega) (by decide), gdn (n := len 119) (show p < 6 by omega) (by decide), gdn (n := len 119) (show p < 6 by omega) (by decide)]
          refine ⟨_, rfl, R2.s2 c, ((M2.tr (Ms.row S (p := p) (k := 5 * p) (nI c) (by omega) (by omega))).tr (Ms.mi _ p _)).tr (Ms.ca _ p _), ?_, ?_⟩
          · rw [FI_sAJ, FI_s, FI_sAI, hm2]
          · rw [AJ_s]
            show AJ S 119 p ||| _ = _
            rw [hj2]; rfl
        rw [show (resI (some c)) = nI c from rfl, if_neg (nI_m1 c (by omega)), water_r hW2 hc64, bind_some_]
        by_cases hwt : wetB w c = true
        · rw [if_pos hwt]
          by_cases s4 : st = 4
          · rw [if_neg (fun q => q.1 s4)] at hρ
            rw [if_pos (show nI st = 4 from by rw [s4]; rfl)]
            subst hρ
            exact mv
          · rw [if_pos ⟨s4, hwt⟩] at hρ
            rw [if_neg (show ¬ nI st = 4 from fun q => s4 ((nI_eq (by omega) (by decide)).mp q)), gdn (n := len 103) (show 5 * p + 3 < 30 by omega) (by decide), nI_1, show (0 : Int32) = nI 0 from rfl, show (99 : Int32) = nI 99 from rfl, within_r (by omega) (by omega) (by decide), bind_some_, gdn (n := len 103) (show 5 * p + 3 < 30 by omega) (by decide)]
            subst hρ
            exact ⟨_, rfl, R2.s5 _, M2.tr (Ms.row S (p := p) (k := 5 * p + 3) _ (by omega) (by omega)), hm2, hj2⟩
        · rw [if_neg (fun q => hwt q.2)] at hρ
          rw [if_neg hwt]
          subst hρ
          exact mv
    by_cases s1 : st = 1
    · rw [if_pos (by rw [s1]; rfl), if_pos s1]
      exact tail 3 _ _ (by decide) rfl rfl
    · rw [if_neg (show ¬ nI st = 1 from fun q => s1 ((nI_eq (by omega) (by decide)).mp q)), if_neg s1]
      by_cases s2 : st = 2
      · rw [if_pos (by rw [s2]; rfl), if_pos s2]
        exact tail 1 _ _ (by decide) rfl rfl
      · rw [if_neg (show ¬ nI st = 2 from fun q => s2 ((nI_eq (by omega) (by decide)).mp q)), if_neg s2]
        exact tail 0 _ _ (by decide) (by omega) rfl
