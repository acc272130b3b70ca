/-! L2: worlds of the class -/
def Mx (P : Nat → Prop) (M M' : Mem) : Prop := ∀ a, ¬ P a → (∀ k, FI M' a k = FI M a k) ∧ (∀ k, FJ M' a k = FJ M a k) ∧ AI M' a = AI M a
theorem Mx.rf (P : Nat → Prop) (M : Mem) : Mx P M M := fun _ _ => ⟨fun _ => rfl, fun _ => rfl, rfl⟩
theorem Mx.tr {P : Nat → Prop} {M M1 M2 : Mem} (h : Mx P M M1) (g : Mx P M1 M2) : Mx P M M2 := fun a ha => ⟨fun k => ((g a ha).1 k).trans ((h a ha).1 k), fun k => ((g a ha).2.1 k).trans ((h a ha).2.1 k), (g a ha).2.2.trans (h a ha).2.2⟩
theorem Mx.wk {P Q : Nat → Prop} {M M' : Mem} (h : Mx P M M') (hPQ : ∀ a, P a → Q a) : Mx Q M M' := fun a ha => h a (fun q => ha (hPQ a q))
theorem Md.mx {M M' : Mem} {a : Nat} (h : Md M M' a) : Mx (fun b => b = a ∨ b = 70) M M' := fun b hb => ⟨h.1 b (fun q => hb (Or.inl q)), h.2.1 b (fun q => hb (Or.inl q)), h.2.2.1 b (fun q => hb (Or.inr q))⟩
theorem Mx.fi (M : Mem) (a k : Nat) (v : Int32) : Mx (fun b => b = a) M (sFI M a k v) := fun b hb => ⟨fun j => by rw [FI_sFI, if_neg (fun q => hb q.1)], fun _ => rfl, rfl⟩
theorem Mx.fj (M : Mem) (a k : Nat) (v : Int64) : Mx (fun b => b = a) M (sFJ M a k v) := fun b hb => ⟨fun _ => rfl, fun j => by rw [FJ_sFJ, if_neg (fun q => hb q.1)], rfl⟩
theorem Mx.ra (M : Mem) (a : Nat) (g : Nat → Int32) : Mx (fun b => b = a) M (rAI M a g) := fun b hb => ⟨fun _ => rfl, fun _ => rfl, AI_rAI_n _ _ hb⟩
theorem RS.mx {P : Nat → Prop} {M M' : Mem} {a : Nat} {σ : Sl} (h : RS M a σ) (hm : Mx P M M') (h1 : ¬ P a) (h2 : ¬ P (a + 19)) : RS M' a σ := by
  obtain ⟨r0, r1, r2, r3, r4, r5, r6, r7, r8⟩ := h
  have e := (hm a h1).1
  have e2 := (hm (a + 19) h2).2.2
  exact ⟨(e 0).trans r0, (e 1).trans r1, (e 2).trans r2, (e 3).trans r3, (e 4).trans r4, (e 5).trans r5, (e 6).trans r6, (e 7).trans r7, fun k hk => by rw [e2]; exact r8 k hk⟩
theorem RTc.mx {P : Nat → Prop} {M M' : Mem} {t : Nat} {x : Txt} (h : RTc M t x) (hm : Mx P M M') (h1 : ¬ P (t + 6)) (h2 : ¬ P (t + 12)) (h3 : ¬ P (t + 18)) : RTc M' t x := by
  have e1 := (hm (t + 6) h1).2.2
  have e2 := (hm (t + 12) h2).2.2
  have e3 := (hm (t + 18) h3).2.2
  exact ⟨fun p hp k hk => by rw [e1, e2]; exact h.1 p hp k hk, fun p hp => by rw [e3]; exact h.2 p hp⟩
/-- a sleeper becomes as another one -/
theorem become_c {M : Mem} {a b : Nat} {σ : Sl} (ha : kd a = 2) (hb : kd b = 2) (hab : b ≠ a) (hS : RS M b σ) (hw : wfS σ) : ∃ M', f_X2_becomeAs a b M = some M' ∧ RS M' a σ ∧ Mx (fun c => c = a ∨ c = a + 19) M M' := by
  obtain ⟨a1, a2⟩ := kd2 ha
  obtain ⟨b1, b2⟩ := kd2 hb
  obtain ⟨w0, w1, w2, w3, w4, w5, w6, w7, w8⟩ := hw
  obtain ⟨r0, r1, r2, r3, r4, r5, r6, r7, r8⟩ := hS
  have nb : ∀ (M : Mem) (k : Nat) (v : Int32) (j : Nat), FI (sFI M a k v) b j = FI M b j := fun M k v j => by rw [FI_sFI, if_neg (fun q => hab q.1)]
  have hA : ∀ (M : Mem) (k : Nat) (v : Int32) (c : Nat), AI (sFI M a k v) c = AI M c := fun _ _ _ _ => rfl
  unfold f_X2_becomeAs b_X2_becomeAs_0 b_X2_becomeAs_8 b_X2_becomeAs_16 b_X2_becomeAs_24 b_X2_becomeAs_32 b_X2_becomeAs_40 b_X2_becomeAs_48 b_X2_becomeAs_56 b_X2_becomeAs_64
  simp only [nb, hA, r0, r1, r2, r3, r4, r5, r6, r7]
  rw [gd_t (by rw [n_2_9 ha, n_2_9 hb]; decide)]
  refine ⟨_, rfl, ⟨?_, ?_, ?_, ?_, ?_, ?_, ?_, ?_, fun k hk => ?_⟩, fun c hc => ⟨fun k => ?_, fun k => rfl, ?_⟩⟩
  · rw [FI_rAI, FI_n (by decide), FI_n (by decide), FI_n (by decide), FI_n (by decide), FI_n (by decide), FI_n (by decide), FI_n (by decide), FI_s]
  · rw [FI_rAI, FI_n (by decide), FI_n (by decide), FI_n (by decide), FI_n (by decide), FI_n (by decide), FI_n (by decide), FI_s]
  · rw [FI_rAI, FI_n (by decide), FI_n (by decide), FI_n (by decide), FI_n (by decide), FI_n (by decide), FI_s]
  · rw [FI_rAI, FI_n (by decide), FI_n (by decide), FI_n (by decide), FI_n (by decide), FI_s]
  · rw [FI_rAI, FI_n (by decide), FI_n (by decide), FI_n (by decide), FI_s]
  · rw [FI_rAI, FI_n (by decide), FI_n (by decide), FI_s]
  · rw [FI_rAI, FI_n (by decide), FI_s]
  · rw [FI_rAI, FI_s]
  · rw [AI_rAI, if_pos rfl]
    show va_cpy _ _ 0 0 16 k = _
    rw [pk_cpy_in (Nat.zero_le _) (by omega)]
    show AI M (b + 19) (0 + (k - 0)) = _
    rw [Nat.zero_add, Nat.sub_zero]
    exact r8 k hk
  · have hca : c ≠ a := fun q => hc (Or.inl q)
    rw [FI_rAI]
    simp only [FI_sFI, hca, false_and, if_false]
  · rw [AI_rAI_n _ _ (fun q => hc (Or.inr q))]
    rfl
/-- the places of a world's sleepers -/
def slx (wi q : Nat) : Nat := AR (wi + 41) q
theorem slx_eq {wi : Nat} (h1 : 1 ≤ wi) (h3 : wi ≤ 3) (q : Nat) : slx wi q = 6 * wi - 1 + q := by
  unfold slx AR
  rw [if_pos (by omega)]
  omega
theorem slx_kd {wi q : Nat} (h1 : 1 ≤ wi) (h3 : wi ≤ 3) (hq : q < 6) : kd (slx wi q) = 2 := by
  rw [slx_eq h1 h3]
  unfold kd
  rw [if_neg (by omega), if_neg (by omega), if_pos (by omega)]
theorem kd4 {wi : Nat} (h1 : 1 ≤ wi) (h3 : wi ≤ 3) : kd wi = 4 := by
  have e : wi = 1 ∨ wi = 2 ∨ wi = 3 := by omega
  rcases e with rfl | rfl | rfl <;> rfl
/-- the world wi holds these -/
def WC (M : Mem) (wi cnt : Nat) (σf : Nat → Sl) (w : Int64) (night law : Nat) : Prop := FJ M wi 0 = w ∧ FI M wi 1 = nI night ∧ FI M wi 2 = nI law ∧ FI M wi 3 = nI cnt ∧ ∀ q, q < cnt → RS M (slx wi q) (σf q)
def inW (wi a : Nat) : Prop := a = wi ∨ (6 * wi - 1 ≤ a ∧ a < 6 * wi + 5) ∨ (6 * wi + 18 ≤ a ∧ a < 6 * wi + 24)
theorem numbered_w {M : Mem} {wi cnt : Nat} (h1 : 1 ≤ wi) (h3 : wi ≤ 3) (hc : cnt ≤ 6) (hC : FI M wi 3 = nI cnt) (x : Int32) : f_X4_numbered wi x M = some (if ¬ x < 0 ∧ x < nI cnt then some (slx wi x.toNatClampNeg) else none) := by
  unfold f_X4_numbered b_X4_numbered_0 b_X4_numbered_27
  rw [hC]
  by_cases hx : x < 0
  · rw [if_pos hx, if_neg (fun q => q.1 hx)]
  · rw [if_neg hx]
    by_cases hy : nI cnt ≤ x
    · rw [if_pos hy, if_neg (fun q => lt_nle q.2 hy)]
    · rw [if_neg hy]
      rcases ix_cases x (show cnt < 2 ^ 31 by omega) with q | ⟨_, q⟩ | ⟨j, hj, rfl⟩
      · exact absurd q hx
      · exact absurd q hy
      · rw [if_neg (show ¬ (6 : Int32) ≤ nI j from nI_ge (b := 6) (by omega) (by decide)), gd_t (by rw [n_4_4 (kd4 h1 h3)]; exact inb_nI (by omega) (by decide)), if_pos (⟨hx, Int32.not_le.mp hy⟩ : ¬ nI j < 0 ∧ nI j < nI cnt)]
        rfl
theorem world_become_loop {N wi wj cnt : Nat} (h1 : 1 ≤ wi) (h3 : wi ≤ 3) (g1 : 1 ≤ wj) (g3 : wj ≤ 3) (hne : wi ≠ wj) (hc : cnt ≤ 6) (σf : Nat → Sl) (hwf : ∀ q, q < cnt → wfS (σf q)) : ∀ (m fu p : Nat) (M : Mem), m < fu → p + m = cnt → FI M wi 3 = nI cnt → (∀ q, q < cnt → RS M (slx wj q) (σf q)) → (∀ q, q < p → RS M (slx wi q) (σf q)) →
    ∃ M', b_X4_becomeAs_34 N wi wj fu (nI p) M = some M' ∧ (∀ q, q < cnt → RS M' (slx wi q) (σf q)) ∧ Mx (fun a => (6 * wi - 1 ≤ a ∧ a < 6 * wi + 5) ∨ (6 * wi + 18 ≤ a ∧ a < 6 * wi + 24)) M M' := by
  intro m
  induction m with
  | zero =>
    intro fu p M hf hp hC hj hi
    obtain ⟨fu, rfl⟩ : ∃ z, fu = z + 1 := ⟨fu - 1, by omega⟩
    have : p = cnt := by omega
    subst this
    rw [b_X4_becomeAs_34, hC, if_pos (nI_le (by omega) (by omega))]
    exact ⟨M, rfl, hi, Mx.rf _ _⟩
  | succ m ih =>
    intro fu p M hf hp hC hj hi
    obtain ⟨fu, rfl⟩ : ∃ z, fu = z + 1 := ⟨fu - 1, by omega⟩
    have ki := slx_kd (q := p) h1 h3 (by omega)
    have kj := slx_kd (q := p) g1 g3 (by omega)
    have si := slx_eq h1 h3 p
    have sj := slx_eq g1 g3 p
    rw [b_X4_becomeAs_34, hC, if_neg (nI_ge (by omega) (by omega)), if_neg (show ¬ (6 : Int32) ≤ nI p from nI_ge (b := 6) (by omega) (by decide)), gd_t (by rw [n_4_4 (kd4 h1 h3)]; exact inb_nI (by omega) (by decide)), gd_t (by rw [n_4_4 (kd4 g1 g3)]; exact inb_nI (by omega) (by decide)), nI_clamp (by omega)]
    show ∃ M', gd (isK (slx wi p) 2) (gd (isK (slx wj p) 2) ((f_X2_becomeAs (slx wi p) (slx wj p) M).bind fun M60 => b_X4_becomeAs_34 N wi wj fu (nI p + 1) M60)) = some M' ∧ _
    rw [gd_t (isK_t ki), gd_t (isK_t kj)]
    obtain ⟨M1, e1, s1, m1⟩ := become_c ki kj (by omega) (hj p (by omega)) (hwf p (by omega))
    rw [e1, bind_some_, nI_1]
    have m1' : Mx (fun a => (6 * wi - 1 ≤ a ∧ a < 6 * wi + 5) ∨ (6 * wi + 18 ≤ a ∧ a < 6 * wi + 24)) M M1 := m1.wk (fun a ha => by rcases ha with rfl | rfl <;> omega)
    obtain ⟨M', a1, a2, a3⟩ := ih fu (p + 1) M1 (by omega) (by omega) (by rw [(m1 wi (by omega)).1]; exact hC) (fun q hq => by
        have := slx_eq g1 g3 q
        exact (hj q hq).mx m1 (by omega) (by omega)) (fun q hq => by
        by_cases hqp : q = p
        · subst hqp; exact s1
        · have := slx_eq h1 h3 q
          exact (hi q (by omega)).mx m1 (by omega) (by omega))
    exact ⟨M', a1, a2, m1'.tr a3⟩
theorem world_become {N wi wj cnt night law : Nat} {w : Int64} {σf : Nat → Sl} {M : Mem} (hN : 160 < N) (h1 : 1 ≤ wi) (h3 : wi ≤ 3) (g1 : 1 ≤ wj) (g3 : wj ≤ 3) (hne : wi ≠ wj) (hc : cnt ≤ 6) (hwf : ∀ q, q < cnt → wfS (σf q)) (hW : WC M wj cnt σf w night law) :
    ∃ M', f_X4_becomeAs N wi wj M = some M' ∧ WC M' wi cnt σf w night law ∧ Mx (inW wi) M M' := by
  obtain ⟨k0, k1, k2, k3, k4⟩ := hW
  have nb : ∀ (M : Mem) (k : Nat) (v : Int32) (j : Nat), FI (sFI M wi k v) wj j = FI M wj j := fun M k v j => by rw [FI_sFI, if_neg (fun q => hne q.1.symm)]
  have nc : ∀ (M : Mem) (k : Nat) (v : Int64) (j : Nat), FI (sFJ M wi k v) wj j = FI M wj j := fun _ _ _ _ => rfl
  unfold f_X4_becomeAs b_X4_becomeAs_0 b_X4_becomeAs_8 b_X4_becomeAs_16 b_X4_becomeAs_24 b_X4_becomeAs_32
  simp only [nb, nc, k0, k1, k2, k3]
  generalize hM1 : sFI (sFI (sFI (sFJ M wi 0 w) wi 1 (nI night)) wi 2 (nI law)) wi 3 (nI cnt) = M1
  have m1 : Mx (fun a => a = wi) M M1 := by
    rw [← hM1]
    exact (((Mx.fj M wi 0 w).tr (Mx.fi _ wi 1 _)).tr (Mx.fi _ wi 2 _)).tr (Mx.fi _ wi 3 _)
  have f3 : FI M1 wi 3 = nI cnt := by rw [← hM1, FI_s]
  have f2 : FI M1 wi 2 = nI law := by rw [← hM1, FI_n (by decide), FI_s]
  have f1 : FI M1 wi 1 = nI night := by rw [← hM1, FI_n (by decide), FI_n (by decide), FI_s]
  have f0 : FJ M1 wi 0 = w := by rw [← hM1, FJ_sFI, FJ_sFI, FJ_sFI, FJ_s]
  obtain ⟨M', a1, a2, a3⟩ := world_become_loop (N := N) h1 h3 g1 g3 hne hc σf hwf cnt N 0 M1 (by omega) (by omega) f3 (fun q hq => by
    have := slx_eq g1 g3 q
    exact (k4 q hq).mx m1 (by omega) (by omega)) (fun q hq => by omega)
  rw [show ((0 : Int32)) = nI 0 from rfl, a1]
  have e := a3 wi (by omega)
  refine ⟨M', rfl, ⟨(e.2.1 0).trans f0, (e.1 1).trans f1, (e.1 2).trans f2, (e.1 3).trans f3, a2⟩, (m1.wk (fun a ha => Or.inl ha)).tr (a3.wk (fun a ha => Or.inr ha))⟩
