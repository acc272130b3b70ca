/-! L2: one's night: the class -/
theorem lg_cmp_0 (x y : Int64) : (lg_cmp x y = 0) = (x = y) := by
  unfold lg_cmp
  by_cases h : x = y
  · subst h
    simp
  · by_cases h2 : x > y
    · simp [h, h2]
    · simp [h, h2]
theorem water_c (w : Int64) (c : Nat) (M : Mem) : f_X5_hasWater w (nI c) M = some (wetB w c) := by
  unfold f_X5_hasWater b_X5_hasWater_0 wetB
  by_cases h : ((w.toUInt64 >>> ((nI c).toInt64.toUInt64 &&& Int64.toUInt64 63)).toInt64) &&& (1 : Int64) = 0
  · rw [if_pos (by rw [lg_cmp_0]; exact h)]
    simp [h]
  · rw [if_neg (by rw [lg_cmp_0]; exact h)]
    simp [h]
theorem nI_m1 (n : Nat) (h : n < 2 ^ 31) : ¬ nI n = -1 := by
  intro q
  have h1 := nI_toInt h
  rw [q] at h1
  have h2 : ((-1 : Int32)).toInt = -1 := rfl
  rw [h2] at h1
  omega
def resI (o : Option Nat) : Int32 := match o with
  | none => -1
  | some c => nI c
theorem beside_c {M : Mem} {a : Nat} {σ : Sl} (hS : RS M a σ) (hc : kC σ < 64) (hw : kW σ < 4) : f_X2_beside a M = some (resI (besN (kC σ) (kW σ))) := by
  obtain ⟨r0, r1, r2, r3, r4, r5, r6, r7, r8⟩ := hS
  unfold f_X2_beside b_X2_beside_0 b_X2_beside_8 besN
  rw [r2, r3, show (8 : Int32) = nI 8 from rfl, remI (by omega) (by decide) (by decide), pk_div (by omega) (by decide) (by decide)]
  have e : kW σ = 0 ∨ kW σ = 1 ∨ kW σ = 2 ∨ kW σ = 3 := by omega
  rcases e with e | e | e | e <;> rw [e] <;> simp (decide := true) only [if_true, if_false, reduceIte]
  · rw [nI_1, itLe (by omega) (by omega)]
    by_cases q : kC σ % 8 + 1 < 8
    · rw [if_neg (by omega), if_pos q, nI_1]; rfl
    · rw [if_pos (by omega), if_neg q]; rfl
  · rw [nI_1, itLe (by omega) (by omega)]
    by_cases q : kC σ / 8 + 1 < 8
    · rw [if_neg (by omega), if_pos q, nI_add]; rfl
    · rw [if_pos (by omega), if_neg q]; rfl
  · rw [show ((0 : Int32)) = nI 0 from rfl, itLe (by omega) (by omega)]
    by_cases q : 0 < kC σ % 8
    · rw [if_neg (by omega), if_pos q, show (1 : Int32) = nI 1 from rfl, pk_sub (by omega)]; rfl
    · rw [if_pos (by omega), if_neg q]; rfl
  · rw [show ((0 : Int32)) = nI 0 from rfl, itLe (by omega) (by omega)]
    by_cases q : 0 < kC σ / 8
    · rw [if_neg (by omega), if_pos q, pk_sub (by omega)]; rfl
    · rw [if_pos (by omega), if_neg q]; rfl
theorem stitchAt_c {M : Mem} {a k : Nat} {σ : Sl} (hS : RS M a σ) (ha : kd a = 2) (h16 : (kS σ).length ≤ 16) (hk : k < (kS σ).length) : f_X2_stitchAt a (nI k) M = some (nI ((kS σ).getD k 0)) := by
  obtain ⟨r0, r1, r2, r3, r4, r5, r6, r7, r8⟩ := hS
  unfold f_X2_stitchAt b_X2_stitchAt_0
  rw [if_neg (nI_pos (by omega)), if_neg (show ¬ (16 : Int32) ≤ nI k from nI_ge (b := 16) (by omega) (by decide)), gd_t (by rw [n_2_9 ha]; exact inb_nI (by omega) (by decide)), nI_clamp (by omega), r8 k hk]
theorem getD_lt5 {σ : Sl} (h : wfS σ) {k : Nat} (hk : k < (kS σ).length) : (kS σ).getD k 0 < 5 := h.2.2.2.2.2.2.2.2 k hk
theorem FI_n {M : Mem} {a b k j : Nat} {v : Int32} (h : j ≠ k) : FI (sFI M a k v) b j = FI M b j := by rw [FI_sFI, if_neg (fun q => h q.2)]
theorem FI_s {M : Mem} {a k : Nat} {v : Int32} : FI (sFI M a k v) a k = v := by rw [FI_sFI, if_pos ⟨rfl, rfl⟩]
theorem FJ_s {M : Mem} {a k : Nat} {v : Int64} : FJ (sFJ M a k v) a k = v := by rw [FJ_sFJ, if_pos ⟨rfl, rfl⟩]
theorem RS.s2 {M : Mem} {a : Nat} {σ : Sl} (h : RS M a σ) (v : Nat) : RS (sFI M a 2 (nI v)) a (mkS (kK σ) (kM σ) v (kW σ) (kN σ) (kT σ) (kL σ) (kS σ)) := by
  obtain ⟨r0, r1, r2, r3, r4, r5, r6, r7, r8⟩ := h
  exact ⟨(FI_n (by decide) |>.trans r0), (FI_n (by decide) |>.trans r1), FI_s, (FI_n (by decide) |>.trans r3), (FI_n (by decide) |>.trans r4), (FI_n (by decide) |>.trans r5), (FI_n (by decide) |>.trans r6), (FI_n (by decide) |>.trans r7), r8⟩
theorem RS.s3 {M : Mem} {a : Nat} {σ : Sl} (h : RS M a σ) (v : Nat) : RS (sFI M a 3 (nI v)) a (mkS (kK σ) (kM σ) (kC σ) v (kN σ) (kT σ) (kL σ) (kS σ)) := by
  obtain ⟨r0, r1, r2, r3, r4, r5, r6, r7, r8⟩ := h
  exact ⟨(FI_n (by decide) |>.trans r0), (FI_n (by decide) |>.trans r1), (FI_n (by decide) |>.trans r2), FI_s, (FI_n (by decide) |>.trans r4), (FI_n (by decide) |>.trans r5), (FI_n (by decide) |>.trans r6), (FI_n (by decide) |>.trans r7), r8⟩
theorem RS.s4 {M : Mem} {a : Nat} {σ : Sl} (h : RS M a σ) (v : Nat) : RS (sFI M a 4 (nI v)) a (mkS (kK σ) (kM σ) (kC σ) (kW σ) v (kT σ) (kL σ) (kS σ)) := by
  obtain ⟨r0, r1, r2, r3, r4, r5, r6, r7, r8⟩ := h
  exact ⟨(FI_n (by decide) |>.trans r0), (FI_n (by decide) |>.trans r1), (FI_n (by decide) |>.trans r2), (FI_n (by decide) |>.trans r3), FI_s, (FI_n (by decide) |>.trans r5), (FI_n (by decide) |>.trans r6), (FI_n (by decide) |>.trans r7), r8⟩
theorem RS.s5 {M : Mem} {a : Nat} {σ : Sl} (h : RS M a σ) (v : Nat) : RS (sFI M a 5 (nI v)) a (mkS (kK σ) (kM σ) (kC σ) (kW σ) (kN σ) v (kL σ) (kS σ)) := by
  obtain ⟨r0, r1, r2, r3, r4, r5, r6, r7, r8⟩ := h
  exact ⟨(FI_n (by decide) |>.trans r0), (FI_n (by decide) |>.trans r1), (FI_n (by decide) |>.trans r2), (FI_n (by decide) |>.trans r3), (FI_n (by decide) |>.trans r4), FI_s, (FI_n (by decide) |>.trans r6), (FI_n (by decide) |>.trans r7), r8⟩
theorem RS.s6 {M : Mem} {a : Nat} {σ : Sl} (h : RS M a σ) (v : Nat) : RS (sFI M a 6 (nI v)) a (mkS (kK σ) (kM σ) (kC σ) (kW σ) (kN σ) (kT σ) v (kS σ)) := by
  obtain ⟨r0, r1, r2, r3, r4, r5, r6, r7, r8⟩ := h
  exact ⟨(FI_n (by decide) |>.trans r0), (FI_n (by decide) |>.trans r1), (FI_n (by decide) |>.trans r2), (FI_n (by decide) |>.trans r3), (FI_n (by decide) |>.trans r4), (FI_n (by decide) |>.trans r5), FI_s, (FI_n (by decide) |>.trans r7), r8⟩
/-- the step's effect on the memory -/
theorem goOn_c {M : Mem} {a : Nat} {σ : Sl} (w : Int64) (hS : RS M a σ) (hw : wfS σ) (ha : kd a = 2) : ∃ M', f_X2_goOn a w M = some ((stepS w σ).1, M') ∧ RS M' a (stepS w σ).2 ∧ Md M M' a ∧ FJ M' a 8 = (if (stepS w σ).1 = true then FJ M a 8 ||| bitL (kC (stepS w σ).2) else FJ M a 8) ∧ AI M' = AI M := by
  have hA : ∀ (M : Mem) (k : Nat) (v : Int32), AI (sFI M a k v) = AI M := fun _ _ _ => rfl
  obtain ⟨w0, w1, w2, w3, w4, w5, w6, w7, w8⟩ := id hw
  have hst := stitchAt_c hS ha w7 w4
  have hst5 := w8 _ w4
  obtain ⟨r0, r1, r2, r3, r4, r5, r6, r7, r8⟩ := id hS
  unfold f_X2_goOn b_X2_goOn_0
  rw [r4, hst, bind_some_, r7, nI_1, itLe (by omega) (by omega)]
  have e33 : (if (kS σ).length ≤ kN σ + 1 then b_X2_goOn_33 a w (nI ((kS σ).getD (kN σ) 0)) 0 M else b_X2_goOn_33 a w (nI ((kS σ).getD (kN σ) 0)) (nI (kN σ + 1)) M) = b_X2_goOn_36 a w (nI ((kS σ).getD (kN σ) 0)) (sFI M a 4 (nI (if kN σ + 1 < (kS σ).length then kN σ + 1 else 0))) := by
    unfold b_X2_goOn_33
    by_cases q : kN σ + 1 < (kS σ).length
    · rw [if_neg (by omega), if_pos q]
    · rw [if_pos (by omega), if_neg q]; rfl
  rw [e33]
  unfold stepS
  dsimp only
  generalize hnx : (if kN σ + 1 < (kS σ).length then kN σ + 1 else 0) = nx
  generalize hsv : (kS σ).getD (kN σ) 0 = st at hst5 hst
  have R1 : RS (sFI M a 4 (nI nx)) a (mkS (kK σ) (kM σ) (kC σ) (kW σ) nx (kT σ) (kL σ) (kS σ)) := hS.s4 nx
  have M1 := Md.fi M a 4 (nI nx)
  unfold b_X2_goOn_36
  by_cases s3 : st = 3
  · rw [if_pos (by rw [s3]; rfl), if_pos s3]
    exact ⟨_, rfl, R1, M1, rfl, rfl⟩
  · rw [if_neg (show ¬ nI st = 3 from fun q => s3 ((nI_eq (by omega) (by decide)).mp q)), if_neg s3]
    have tail : ∀ (way : Nat) (M2 : Mem) (ρ : Bool × Sl), way < 4 → RS M2 a (mkS (kK σ) (kM σ) (kC σ) way nx (kT σ) (kL σ) (kS σ)) → Md M M2 a → FJ M2 a 8 = FJ M a 8 → AI M2 = AI M →
        ρ = (match besN (kC σ) way with | none => (false, mkS (kK σ) (kM σ) (kC σ) way nx (kT σ) (kL σ) (kS σ)) | some c => if st ≠ 4 ∧ wetB w c = true then (false, mkS (kK σ) (kM σ) (kC σ) way nx (min 99 (kT σ + 1)) (kL σ) (kS σ)) else (true, mkS (kK σ) (kM σ) c way nx (kT σ) (kL σ) (kS σ))) →
        ∃ M', b_X2_goOn_80 a w (nI st) M2 = some (ρ.1, M') ∧ RS M' a ρ.2 ∧ Md M M' a ∧ FJ M' a 8 = (if ρ.1 = true then FJ M a 8 ||| bitL (kC ρ.2) else FJ M a 8) ∧ AI M' = AI M := by
      intro way M2 ρ hway R2 hM2 hF hA2 hρ
      have hb : f_X2_beside a M2 = some (resI (besN (kC σ) way)) := beside_c R2 w2 hway
      have q5 : FI M2 a 5 = nI (kT σ) := R2.2.2.2.2.2.1
      unfold b_X2_goOn_80
      rw [hb, bind_some_]
      cases hc : besN (kC σ) way with
      | none =>
        rw [hc] at hρ
        dsimp only at hρ
        subst hρ
        rw [show (resI none) = -1 from rfl, if_pos rfl]
        exact ⟨M2, rfl, R2, hM2, hF, hA2⟩
      | some c =>
        have hc64 := besN_lt w2 hc
        rw [hc] at hρ
        dsimp only at hρ
        have mv : ∃ M', b_X2_goOn_125 a w (nI c) M2 = some (true, M') ∧ RS M' a (mkS (kK σ) (kM σ) c way nx (kT σ) (kL σ) (kS σ)) ∧ Md M M' a ∧ FJ M' a 8 = FJ M a 8 ||| bitL c ∧ AI M' = AI M := by
          unfold b_X2_goOn_125 b_X2_goOn_131
          refine ⟨_, rfl, R2.s2 c, (hM2.tr (Md.fi _ _ _ _)).tr (Md.fj _ _ _ _), ?_, hA2⟩
          rw [FJ_s, FJ_sFI, hF]; rfl
        rw [show (resI (some c)) = nI c from rfl, if_neg (nI_m1 c (by omega))]
        by_cases s4 : st = 4
        · rw [if_neg (fun q => q.1 s4)] at hρ
          rw [if_pos (by rw [s4]; rfl)]
          subst hρ
          exact mv
        · rw [if_neg (show ¬ nI st = 4 from fun q => s4 ((nI_eq (by omega) (by decide)).mp q)), water_c, bind_some_]
          by_cases hwt : wetB w c = true
          · rw [if_pos ⟨s4, hwt⟩] at hρ
            rw [if_pos hwt]
            subst hρ
            have e5 : (if FI M2 a 5 + 1 < 99 then FI M2 a 5 + 1 else 99) = nI (min 99 (kT σ + 1)) := by
              rw [q5, nI_1, show (99 : Int32) = nI 99 from rfl, ite_min (by decide) (by omega)]
            rw [e5]
            exact ⟨_, rfl, R2.s5 _, hM2.tr (Md.fi _ _ _ _), hF, hA2⟩
          · rw [if_neg (fun q => hwt q.2)] at hρ
            rw [if_neg hwt]
            subst hρ
            exact mv
    have fw : ∀ d : Nat, d = 1 ∨ d = 3 → ∃ M2, M2 = sFI (sFI M a 4 (nI nx)) a 3 (((FI (sFI M a 4 (nI nx)) a 3) + nI d) - ((FI (sFI M a 4 (nI nx)) a 3) + nI d) / 4 * 4) ∧ RS M2 a (mkS (kK σ) (kM σ) (kC σ) ((kW σ + d) % 4) nx (kT σ) (kL σ) (kS σ)) ∧ Md M M2 a ∧ FJ M2 a 8 = FJ M a 8 ∧ AI M2 = AI M := by
      intro d hd
      refine ⟨_, rfl, ?_, M1.tr (Md.fi _ _ _ _), rfl, rfl⟩
      have q3 : FI (sFI M a 4 (nI nx)) a 3 = nI (kW σ) := R1.2.2.2.1
      rw [q3, nI_add, show (4 : Int32) = nI 4 from rfl, remI (by omega) (by decide) (by decide)]
      exact R1.s3 _
    by_cases s1 : st = 1
    · rw [if_pos (by rw [s1]; rfl), if_pos s1]
      obtain ⟨M2, e2, R2, hM2, hF2, hA2⟩ := fw 3 (Or.inr rfl)
      unfold b_X2_goOn_60
      rw [show (3 : Int32) = nI 3 from rfl, ← e2]
      exact tail _ _ _ (Nat.mod_lt _ (by decide)) R2 hM2 hF2 hA2 rfl
    · rw [if_neg (show ¬ nI st = 1 from fun q => s1 ((nI_eq (by omega) (by decide)).mp q)), if_neg s1]
      by_cases s2 : st = 2
      · rw [if_pos (by rw [s2]; rfl), if_pos s2]
        obtain ⟨M2, e2, R2, hM2, hF2, hA2⟩ := fw 1 (Or.inl rfl)
        rw [show (1 : Int32) = nI 1 from rfl, ← e2]
        exact tail _ _ _ (Nat.mod_lt _ (by decide)) R2 hM2 hF2 hA2 rfl
      · rw [if_neg (show ¬ nI st = 2 from fun q => s2 ((nI_eq (by omega) (by decide)).mp q)), if_neg s2]
        exact tail _ _ _ w3 R1 M1 rfl rfl rfl
theorem walk_loop_c {N t a night : Nat} {w : Int64} {ww : Nat} : ∀ (n fu d : Nat) (M : Mem) (σ : Sl), n < fu → RS M a σ → wfS σ → kd a = 2 → d + n < 1000 → ww < 1000 →
    ∃ M', b_X2_walk_18 N a t (nI night) w fu (nI (d + n)) (nI ww) (nI d) M = some (nI (d + (goS w n σ).1), M') ∧ RS M' a (mkS (kK (goS w n σ).2.1) (kM (goS w n σ).2.1) (kC (goS w n σ).2.1) (kW (goS w n σ).2.1) (kN (goS w n σ).2.1) (kT (goS w n σ).2.1) (kL (goS w n σ).2.1 - ww) (kS (goS w n σ).2.1)) ∧ Md M M' a ∧ FJ M' a 8 = FJ M a 8 ||| (goS w n σ).2.2 ∧ AI M' = AI M := by
  have fin : ∀ (d e : Nat) (M : Mem) (σ : Sl), RS M a σ → wfS σ → ww < 1000 → ∃ M', b_X2_walk_39 N a t (nI night) w (nI ww) (nI d) M = some (nI d, M') ∧ RS M' a (mkS (kK σ) (kM σ) (kC σ) (kW σ) (kN σ) (kT σ) (kL σ - ww) (kS σ)) ∧ Md M M' a ∧ FJ M' a 8 = FJ M a 8 ∧ AI M' = AI M := by
    intro d e M σ hS hw hww
    have q6 : FI M a 6 = nI (kL σ) := hS.2.2.2.2.2.2.1
    have hL : kL σ ≤ 99 := hw.2.2.2.2.2.2.1
    unfold b_X2_walk_39
    have e6 : (if (0 : Int32) < FI M a 6 - nI ww then FI M a 6 - nI ww else 0) = nI (kL σ - ww) := by
      rw [q6]
      by_cases h : ww < kL σ
      · rw [pk_sub (by omega), show (0 : Int32) = nI 0 from rfl, itLt (by decide) (by omega), if_pos (by omega)]
      · have hz : kL σ - ww = 0 := by omega
        rw [hz]
        have : ¬ (0 : Int32) < nI (kL σ) - nI ww := by
          rw [Int32.lt_iff_toInt_lt, pk_sub_toInt (by omega) (by omega), show (0 : Int32).toInt = 0 from rfl]
          omega
        rw [if_neg this]; rfl
    rw [e6]
    exact ⟨_, rfl, hS.s6 _, Md.fi _ _ _ _, rfl, rfl⟩
  intro n
  induction n with
  | zero =>
    intro fu d M σ hf hS hw ha hd hww
    obtain ⟨fu, rfl⟩ : ∃ z, fu = z + 1 := ⟨fu - 1, by omega⟩
    rw [b_X2_walk_18, if_pos (nI_le (by omega) (by omega))]
    obtain ⟨M', m1, m2, m3, m4, m5⟩ := fin d 0 M σ hS hw hww
    refine ⟨M', m1, m2, m3, ?_, m5⟩
    rw [m4]
    show _ = _ ||| (0 : Int64)
    rw [Int64.or_zero]
  | succ n ih =>
    intro fu d M σ hf hS hw ha hd hww
    obtain ⟨fu, rfl⟩ : ∃ z, fu = z + 1 := ⟨fu - 1, by omega⟩
    rw [b_X2_walk_18, if_neg (nI_ge (by omega) (by omega))]
    obtain ⟨M1, g1, g2, g3, g4, g5⟩ := goOn_c w hS hw ha
    rw [g1, bd2_s]
    unfold goS
    by_cases hb : (stepS w σ).1 = true
    · rw [if_pos hb, if_pos hb, nI_1, show d + (n + 1) = d + 1 + n by omega]
      obtain ⟨M', m1, m2, m3, m4, m5⟩ := ih fu (d + 1) M1 (stepS w σ).2 (by omega) g2 (wf_step hw) ha (by omega) hww
      refine ⟨M', ?_, m2, g3.tr m3, ?_, m5.trans g5⟩
      · rw [m1]
        congr 3
        show d + 1 + _ = d + (_ + 1)
        omega
      · rw [m4, g4, if_pos hb]
        exact Int64.or_assoc _ _ _
    · rw [if_neg hb, if_neg hb]
      obtain ⟨M', m1, m2, m3, m4, m5⟩ := fin d 0 M1 (stepS w σ).2 g2 (wf_step hw) hww
      refine ⟨M', m1, m2, g3.tr m3, ?_, m5.trans g5⟩
      rw [m4, g4, if_neg hb]
      show _ = _ ||| (0 : Int64)
      rw [Int64.or_zero]
theorem walk_c {N t a night : Nat} {σ : Sl} {M : Mem} {x : Txt} (w : Int64) (hN : 160 < N) (ht : kd t = 3) (ha : kd a = 2) (hS : RS M a σ) (hw : wfS σ) (hT : RTc M t x) (hx : wfT x) (hn : night < 100000) :
    ∃ M', f_X2_walk N a t (nI night) w M = some (nI (walkS x night w σ).1, M') ∧ RS M' a (walkS x night w σ).2.1 ∧ Md M M' a ∧ FJ M' a 8 = FJ M a 8 ||| (walkS x night w σ).2.2 := by
  obtain ⟨g, h1⟩ := goes_c hN ht ha hS hw hT hx
  obtain ⟨g2, h2⟩ := wears_c hN ht ha (hS.st ha g) hw (hT.st ht g) hx hn
  have h3 := goesS_le (x := x) hw
  have h4 := wearsS_le (x := x) (night := night) hw
  obtain ⟨M', m1, m2, m3, m4, m5⟩ := walk_loop_c (N := N) (t := t) (night := night) (w := w) (ww := wearsS x night σ) (goesS x σ) N 0 (rAI (rAI M 70 g) 70 g2) σ (by omega) ((hS.st ha g).st ha g2) hw ha (by omega) (by omega)
  unfold f_X2_walk b_X2_walk_0
  rw [h1, bd2_s, h2, bd2_s]
  rw [Nat.zero_add, Nat.zero_add] at m1
  exact ⟨M', m1, m2, ((Md.st M a g).tr (Md.st _ a g2)).tr m3, m4⟩
