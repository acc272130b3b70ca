/-! L2: lookups of both sides at once; one sleeper of the truth changed -/
theorem isOne_r {cnt : Nat} {R : Mem} (hc : cnt ≤ 6) (hC : FI R 100 0 = nI cnt) (x : Int32) : f_X6_isOne x R = some (decide (¬ x < 0 ∧ x < nI cnt)) := by
  unfold f_X6_isOne b_X6_isOne_0
  rw [in_r, bind_some_, hC]
  refine congrArg some (decide_eq_decide.mpr ⟨fun z => ⟨z.1, ?_⟩, fun z => ⟨z.1, ?_⟩⟩)
  · have z2 := z.2
    rw [Int32.lt_iff_toInt_lt, lk_1, pk_sub_toInt (by omega) (by decide)] at z2
    rw [Int32.lt_iff_toInt_lt, nI_toInt (by omega)]
    omega
  · have z2 := z.2
    rw [Int32.lt_iff_toInt_lt, nI_toInt (by omega)] at z2
    rw [Int32.lt_iff_toInt_lt, lk_1, pk_sub_toInt (by omega) (by decide)]
    omega
/-- a number of a sleeper, as both sides look it up -/
theorem one_b (x : Int32) {M R : Mem} {s : St} (hw : wfSt s) (hc : RcS M s) (hr : RrS R s) : (∃ p : Nat, p < dC (aV s) ∧ x = nI p ∧ f_X4_numbered 1 x M = some (some (slx 1 p)) ∧ f_X6_isOne x R = some true) ∨ (f_X4_numbered 1 x M = some none ∧ f_X6_isOne x R = some false) := by
  have hc6 : dC (aV s) ≤ 6 := hw.1.1
  rw [numbered_w (by decide) (by decide) hc6 hc.1.2.2.2.1, isOne_r hc6 hr.1.2.2.2.1]
  by_cases h : ¬ x < 0 ∧ x < nI (dC (aV s))
  · left
    obtain ⟨p, hp, rfl⟩ := nn_ex h.1
    refine ⟨p, (nI_ltI hp (by omega)).mp h.2, rfl, ?_, ?_⟩
    · rw [if_pos h, nI_clamp hp]
    · rw [decide_eq_true h]
  · right
    rw [if_neg h, decide_eq_false h]
    exact ⟨rfl, rfl⟩
/-- an int in 0 .. n - 1, or not -/
theorem rg_b (x : Int32) (n : Nat) (hn : n < 2 ^ 31) : (∃ k : Nat, k < n ∧ x = nI k) ∨ (¬ (¬ x < 0 ∧ x < nI n)) := by
  rcases ix_cases x hn with q | ⟨_, q⟩ | h
  · exact Or.inr (fun z => z.1 q)
  · exact Or.inr (fun z => lt_nle z.2 q)
  · exact Or.inl h
theorem in_no {x : Int32} {n : Nat} (hn : n < 2 ^ 30) (h : ¬ (¬ x < 0 ∧ x < nI (n + 1))) (R : Mem) : f_X6_in x 0 (nI n) R = some false := by
  rw [in_r]
  refine congrArg some (decide_eq_false fun z => h ⟨z.1, ?_⟩)
  have z2 := z.2
  rw [Int32.lt_iff_toInt_lt, nI_toInt (by omega)] at z2
  rw [Int32.lt_iff_toInt_lt, nI_toInt (by omega)]
  omega
theorem in_yes {k n : Nat} (hn : n < 2 ^ 30) (h : k ≤ n) (R : Mem) : f_X6_in (nI k) 0 (nI n) R = some true := by
  rw [show f_X6_in (nI k) 0 (nI n) R = some (decide (0 ≤ k ∧ k ≤ n)) from in_n (by omega) (by decide) (by omega) R, decide_eq_true ⟨Nat.zero_le _, h⟩]
/-- a refusal by a bound in the class' way: both tests -/
theorem cl_no {α : Type} {x : Int32} {n : Nat} {a b : α} (h : ¬ (¬ x < 0 ∧ x < nI n)) : (if x < 0 then a else if nI n ≤ x then a else b) = a := by
  by_cases q : x < 0
  · rw [if_pos q]
  · rw [if_neg q, if_pos (Int32.not_lt.mp (fun z => h ⟨q, z⟩))]
theorem cl_yes {α : Type} {k n : Nat} {a b : α} (hk : k < n) (hn : n < 2 ^ 31) : (if nI k < 0 then a else if nI n ≤ nI k then a else b) = b := by
  rw [if_neg (nI_pos (by omega)), if_neg (nI_ge hk hn)]
theorem cl_no2 {α : Type} {x : Int32} {n : Nat} {a b : α} (hn : n < 2 ^ 30) (h : ¬ (¬ x < 0 ∧ x < nI (n + 1))) : (if x < 0 then a else if nI n < x then a else b) = a := by
  by_cases q : x < 0
  · rw [if_pos q]
  · rw [if_neg q, if_pos]
    have z2 : nI (n + 1) ≤ x := Int32.not_lt.mp (fun z => h ⟨q, z⟩)
    rw [Int32.le_iff_toInt_le, nI_toInt (by omega)] at z2
    rw [Int32.lt_iff_toInt_lt, nI_toInt (by omega)]
    omega
theorem cl_yes2 {α : Type} {k n : Nat} {a b : α} (hk : k ≤ n) (hn : n < 2 ^ 31) : (if nI k < 0 then a else if nI n < nI k then a else b) = b := by
  rw [if_neg (nI_pos (by omega)), if_neg (fun z => by rw [ltI (by omega) (by omega)] at z; omega)]
def setF (f : Nat → Sl) (p : Nat) (σ : Sl) : Nat → Sl := fun q => if q = p then σ else f q
theorem setF_s (f : Nat → Sl) (p : Nat) (σ : Sl) : setF f p σ p = σ := if_pos rfl
theorem setF_n (f : Nat → Sl) {p q : Nat} (σ : Sl) (h : q ≠ p) : setF f p σ q = f q := if_neg h
def setS (s : St) (p : Nat) (σ : Sl) : St := withV s (mkV (dC (aV s)) (setF (dS (aV s)) p σ) (dW (aV s)) (dN (aV s)) (dL (aV s)))
theorem wf_setF {f : Nat → Sl} {cnt p : Nat} {σ : Sl} (h : ∀ q, q < cnt → wfS (f q)) (hσ : wfS σ) : ∀ q, q < cnt → wfS (setF f p σ q) := fun q hq => by
  by_cases e : q = p
  · rw [e, setF_s]; exact hσ
  · rw [setF_n _ _ e]; exact h q hq
theorem wf_set {s : St} {p : Nat} {σ : Sl} (h : wfSt s) (hσ : wfS σ) (hk : kK σ = kK (dS (aV s) p)) (hm : kM σ = kM (dS (aV s) p)) : wfSt (setS s p σ) :=
  wf_vw h ⟨h.1.1, wf_setF h.1.2.1 hσ, h.1.2.2.1, h.1.2.2.2⟩ (Nat.le_refl _) (fun q _ => by
    show kK (setF (dS (aV s)) p σ q) = _ ∧ kM (setF (dS (aV s)) p σ q) = _
    by_cases e : q = p
    · rw [e, setF_s]; exact ⟨hk, hm⟩
    · rw [setF_n _ _ e]; exact ⟨rfl, rfl⟩)
theorem RcS.one {M M' : Mem} {s : St} {p c n l : Nat} {w : Int64} {σ : Sl} (h : RcS M s) (hw : wfSt s) (hp6 : p < 6) (hc6 : c ≤ 6) (hcc : ∀ q, q < c → q ≠ p → q < dC (aV s)) (hm : Mx (fun a => a = 1 ∨ a = slx 1 p ∨ a = slx 1 p + 19 ∨ gC a) M M') (e0 : FJ M' 1 0 = w) (e1 : FI M' 1 1 = nI n) (e2 : FI M' 1 2 = nI l) (e3 : FI M' 1 3 = nI c) (hσ : RS M' (slx 1 p) σ) : RcS M' (withV s (mkV c (setF (dS (aV s)) p σ) w n l)) := by
  have sp := slx_eq (wi := 1) (by decide) (by decide) p
  refine h.vw hw (hm.wk (fun a ha => by unfold inW; rcases ha with ha | ha | ha | ha <;> first | exact Or.inr ha | (left; omega))) ⟨e0, e1, e2, e3, fun q hq => ?_⟩
  have hq : q < c := hq
  have sq := slx_eq (wi := 1) (by decide) (by decide) q
  show RS M' (slx 1 q) (setF (dS (aV s)) p σ q)
  by_cases e : q = p
  · rw [e, setF_s]; exact hσ
  · rw [setF_n _ _ e]
    exact (h.1.2.2.2.2 q (hcc q hq e)).mx hm (by unfold gC; omega) (by unfold gC; omega)
theorem RcS.set {M M' : Mem} {s : St} {p : Nat} {σ : Sl} (h : RcS M s) (hw : wfSt s) (hp : p < dC (aV s)) (hm : Mx (fun a => a = slx 1 p ∨ a = slx 1 p + 19) M M') (hσ : RS M' (slx 1 p) σ) : RcS M' (setS s p σ) := by
  have hc6 : dC (aV s) ≤ 6 := hw.1.1
  have sp := slx_eq (wi := 1) (by decide) (by decide) p
  have e1 := hm 1 (by omega)
  exact h.one hw (by omega) hc6 (fun q hq _ => hq) (hm.wk (fun a ha => ha.elim (fun z => Or.inr (Or.inl z)) (fun z => Or.inr (Or.inr (Or.inl z))))) ((e1.2.1 0).trans h.1.1) ((e1.1 1).trans h.1.2.1) ((e1.1 2).trans h.1.2.2.1) ((e1.1 3).trans h.1.2.2.2.1) hσ
/-- R' is R but for what stands of sleeper p -/
def Mp (R R' : Mem) (p : Nat) : Prop := (∀ k, FI R' 100 k = FI R 100 k) ∧ (∀ k, FJ R' 100 k = FJ R 100 k) ∧ (∀ b, (b < 101 ∨ 105 < b) → AI R' b = AI R b) ∧ (∀ q, q ≠ p → AI R' 101 q = AI R 101 q ∧ AI R' 102 q = AI R 102 q ∧ AI R' 105 q = AI R 105 q) ∧ (∀ q, q < 5 * p ∨ 5 * p + 5 ≤ q → AI R' 103 q = AI R 103 q) ∧ ∀ q, q < 16 * p ∨ 16 * p + 16 ≤ q → AI R' 104 q = AI R 104 q
theorem Mp.rf (R : Mem) (p : Nat) : Mp R R p := ⟨fun _ => rfl, fun _ => rfl, fun _ _ => rfl, fun _ _ => ⟨rfl, rfl, rfl⟩, fun _ _ => rfl, fun _ _ => rfl⟩
theorem Mp.tr {R R1 R2 : Mem} {p : Nat} (h : Mp R R1 p) (g : Mp R1 R2 p) : Mp R R2 p := ⟨fun k => (g.1 k).trans (h.1 k), fun k => (g.2.1 k).trans (h.2.1 k), fun b hb => (g.2.2.1 b hb).trans (h.2.2.1 b hb), fun q hq => ⟨(g.2.2.2.1 q hq).1.trans (h.2.2.2.1 q hq).1, (g.2.2.2.1 q hq).2.1.trans (h.2.2.2.1 q hq).2.1, (g.2.2.2.1 q hq).2.2.trans (h.2.2.2.1 q hq).2.2⟩, fun q hq => (g.2.2.2.2.1 q hq).trans (h.2.2.2.2.1 q hq), fun q hq => (g.2.2.2.2.2 q hq).trans (h.2.2.2.2.2 q hq)⟩
theorem Mp.row (R : Mem) {p k : Nat} (v : Int32) (h1 : 5 * p ≤ k) (h2 : k < 5 * p + 5) : Mp R (sAI R 103 k v) p := ⟨fun _ => rfl, fun _ => rfl, fun b hb => AI_nf (by omega), fun q _ => ⟨AI_na (by decide), AI_na (by decide), AI_na (by decide)⟩, fun q hq => AI_n (by omega), fun q _ => AI_na (by decide)⟩
theorem Mp.sock (R : Mem) {p k : Nat} (v : Int32) (h1 : 16 * p ≤ k) (h2 : k < 16 * p + 16) : Mp R (sAI R 104 k v) p := ⟨fun _ => rfl, fun _ => rfl, fun b hb => AI_nf (by omega), fun q _ => ⟨AI_na (by decide), AI_na (by decide), AI_na (by decide)⟩, fun q hq => AI_na (by decide), fun q _ => AI_n (by omega)⟩
theorem Mp.kind (R : Mem) (p : Nat) (v : Int32) : Mp R (sAI R 101 p v) p := ⟨fun _ => rfl, fun _ => rfl, fun b hb => AI_nf (by omega), fun q hq => ⟨AI_n hq, AI_na (by decide), AI_na (by decide)⟩, fun q hq => AI_na (by decide), fun q _ => AI_na (by decide)⟩
theorem Mp.more (R : Mem) (p : Nat) (v : Int32) : Mp R (sAI R 102 p v) p := ⟨fun _ => rfl, fun _ => rfl, fun b hb => AI_nf (by omega), fun q hq => ⟨AI_na (by decide), AI_n hq, AI_na (by decide)⟩, fun q hq => AI_na (by decide), fun q _ => AI_na (by decide)⟩
theorem Mp.size (R : Mem) (p : Nat) (v : Int32) : Mp R (sAI R 105 p v) p := ⟨fun _ => rfl, fun _ => rfl, fun b hb => AI_nf (by omega), fun q hq => ⟨AI_na (by decide), AI_na (by decide), AI_n hq⟩, fun q hq => AI_na (by decide), fun q _ => AI_na (by decide)⟩
theorem RR.mp {R R' : Mem} {p q : Nat} {σ : Sl} (h : RR R q σ) (h16 : (kS σ).length ≤ 16) (hm : Mp R R' p) (hq : q ≠ p) : RR R' q σ := by
  obtain ⟨r0, r1, r2, r3, r4, r5, r6, r7, r8⟩ := h
  obtain ⟨m1, m2, m3, m4, m5, m6⟩ := hm
  have e := m4 q hq
  exact ⟨e.1.trans r0, e.2.1.trans r1, (m5 _ (by omega)).trans r2, (m5 _ (by omega)).trans r3, (m5 _ (by omega)).trans r4, (m5 _ (by omega)).trans r5, (m5 _ (by omega)).trans r6, e.2.2.trans r7, fun k hk => (m6 _ (by omega)).trans (r8 k hk)⟩
theorem RTr.mp {R R' : Mem} {p i : Nat} {x : Txt} (h : RTr R i x) (hm : Mp R R' p) : RTr R' i x := by
  have e1 := hm.2.2.1 107 (by omega)
  have e2 := hm.2.2.1 108 (by omega)
  exact ⟨fun p hp k hk => by rw [e1]; exact h.1 p hp k hk, fun p hp => by rw [e2]; exact h.2.1 p hp, by rw [e2]; exact h.2.2⟩
theorem WR.mp {R R' : Mem} {cnt p night law : Nat} {σf : Nat → Sl} {w : Int64} {σ : Sl} (h : WR R cnt σf w night law) (hwf : ∀ q, q < cnt → wfS (σf q)) (hm : Mp R R' p) (hσ : RR R' p σ) : WR R' cnt (setF σf p σ) w night law := by
  obtain ⟨k0, k1, k2, k3, k4⟩ := h
  refine ⟨(hm.2.1 6).trans k0, (hm.1 7).trans k1, (hm.1 13).trans k2, (hm.1 0).trans k3, fun q hq => ?_⟩
  by_cases e : q = p
  · rw [e, setF_s]; exact hσ
  · rw [setF_n _ _ e]
    exact (k4 q hq).mp (hwf q hq).2.2.2.2.2.2.2.1 hm e
theorem RrS.set {R R' : Mem} {s : St} {p : Nat} {σ : Sl} (h : RrS R s) (hw : wfSt s) (hm : Mp R R' p) (hσ : RR R' p σ) : RrS R' (setS s p σ) :=
  h.vw ⟨fun k _ _ _ _ _ => hm.1 k, fun k _ => hm.2.1 k, fun b hb _ _ _ => hm.2.2.1 b hb⟩ (WR.mp h.1 hw.1.2.1 hm hσ)
theorem fin1 {M R : Mem} {s : St} (hw : wfSt s) (hc : RcS M s) (hr : RrS R s) : Sim M R := ⟨s, hw, hc, hr⟩
