/-! L2: the whole state, of the class and of the reference -/
abbrev Wd : Type := Nat × (Nat → Sl) × Int64 × Nat × Nat
def dC (v : Wd) : Nat := v.1
def dS (v : Wd) : Nat → Sl := v.2.1
def dW (v : Wd) : Int64 := v.2.2.1
def dN (v : Wd) : Nat := v.2.2.2.1
def dL (v : Wd) : Nat := v.2.2.2.2
abbrev St : Type := Wd × (Nat × (Nat → Txt)) × (Nat × (Nat → Nat)) × (Bool × Wd) × (Nat → Int32) × (Nat → Nat) × (Nat → Nat → Int32)
def aV (s : St) : Wd := s.1
def aX (s : St) : Nat := s.2.1.1
def aT (s : St) : Nat → Txt := s.2.1.2
def aP (s : St) : Nat := s.2.2.1.1
def aB (s : St) : Nat → Nat := s.2.2.1.2
def aI (s : St) : Bool := s.2.2.2.1.1
def aJ (s : St) : Wd := s.2.2.2.1.2
def aO (s : St) : Nat → Int32 := s.2.2.2.2.1
def aZ (s : St) : Nat → Nat := s.2.2.2.2.2.1
def aU (s : St) : Nat → Nat → Int32 := s.2.2.2.2.2.2
def mkSt (v : Wd) (tx : Nat) (tf : Nat → Txt) (tn : Nat) (tb : Nat → Nat) (i : Bool) (j : Wd) (o : Nat → Int32) (z : Nat → Nat) (u : Nat → Nat → Int32) : St := (v, (tx, tf), (tn, tb), (i, j), o, z, u)
def wfWd (v : Wd) (tx : Nat) : Prop := dC v ≤ 6 ∧ (∀ q, q < dC v → wfS (dS v q)) ∧ dN v ≤ 999 ∧ dL v < tx
def wfSt (s : St) : Prop := wfWd (aV s) (aX s) ∧ (1 ≤ aX s ∧ aX s ≤ 6 ∧ ∀ i, i < aX s → wfT (aT s i)) ∧ (aP s ≤ 160 ∧ ∀ k, k < aP s → aB s k < 256) ∧ (aI s = true → wfWd (aJ s) (aX s) ∧ dC (aJ s) ≤ dC (aV s) ∧ ∀ q, q < dC (aJ s) → kK (dS (aJ s) q) = kK (dS (aV s) q) ∧ kM (dS (aJ s) q) = kM (dS (aV s) q)) ∧ ∀ k, k < 4 → (aO s k = -1 ∨ aO s k = 0 ∨ aO s k = 1 ∨ aO s k = 2) ∧ aZ s k ≤ 40 ∧ (aO s k = -1 → aZ s k = 0)
def WCv (M : Mem) (wi : Nat) (v : Wd) : Prop := WC M wi (dC v) (dS v) (dW v) (dN v) (dL v)
def WRv (R : Mem) (v : Wd) : Prop := WR R (dC v) (dS v) (dW v) (dN v) (dL v)
def SC (M : Mem) (o : Nat → Int32) (z : Nat → Nat) (u : Nat → Nat → Int32) : Prop := ∀ k, k < 4 → FI M (74 + k) 0 = o k ∧ FI M (74 + k) 1 = nI (z k) ∧ ∀ j, j < 40 → AI M (78 + k) j = u k j
def SR (R : Mem) (o : Nat → Int32) (z : Nat → Nat) (u : Nat → Nat → Int32) : Prop := ∀ k, k < 4 → AI R 111 k = o k ∧ AI R 112 k = nI (z k) ∧ ∀ j, j < 40 → AI R 113 (40 * k + j) = u k j
/-- the class' memory holds s -/
def RcS (M : Mem) (s : St) : Prop := WCv M 1 (aV s) ∧ FI M 0 8 = nI (aX s) ∧ TC M (aX s) (aT s) ∧ FI M 0 9 = nI (aP s) ∧ (∀ k, k < aP s → AI M 71 k = nI (aB s k)) ∧ FI M 0 10 = b2i (aI s) ∧ (aI s = true → WCv M 3 (aJ s)) ∧ SC M (aO s) (aZ s) (aU s)
/-- the reference's image of a sleeper (its kind and more stand elsewhere) -/
def RI (R : Mem) (p : Nat) (σ : Sl) : Prop := AI R 109 (5 * p) = nI (kC σ) ∧ AI R 109 (5 * p + 1) = nI (kW σ) ∧ AI R 109 (5 * p + 2) = nI (kN σ) ∧ AI R 109 (5 * p + 3) = nI (kT σ) ∧ AI R 109 (5 * p + 4) = nI (kL σ) ∧ AI R 109 (126 + p) = nI (kS σ).length ∧ ∀ k, k < (kS σ).length → AI R 109 (30 + (16 * p + k)) = nI ((kS σ).getD k 0)
def wtab : List Nat := [103, 111, 101, 115, 32, 32, 32, 32, 109, 105, 110, 100, 115, 32, 32, 32, 119, 101, 97, 114, 115, 32, 32, 32, 115, 116, 105, 116, 99, 104, 32, 32, 99, 111, 108, 117, 109, 110, 32, 32, 114, 111, 119, 32, 32, 32, 32, 32, 119, 101, 116, 32, 32, 32, 32, 32, 119, 111, 111, 108, 32, 32, 32, 32, 109, 111, 114, 101, 32, 32, 32, 32, 111, 114, 32, 32, 32, 32, 32, 32, 97, 110, 100, 32, 32, 32, 32, 32, 110, 111, 116, 32, 32, 32, 32, 32]
/-- the reference's memory holds s -/
def RrS (R : Mem) (s : St) : Prop := WRv R (aV s) ∧ FI R 100 12 = nI (aX s) ∧ TR R (aX s) (aT s) ∧ FI R 100 9 = nI (aP s) ∧ (∀ k, k < aP s → AI R 106 k = nI (aB s k)) ∧ FI R 100 14 = b2i (aI s) ∧ (aI s = true → FJ R 100 16 = dW (aJ s) ∧ AI R 110 0 = nI (dC (aJ s)) ∧ AI R 110 1 = nI (dN (aJ s)) ∧ AI R 110 2 = nI (dL (aJ s)) ∧ ∀ q, q < dC (aJ s) → RI R q (dS (aJ s) q)) ∧ SR R (aO s) (aZ s) (aU s) ∧ ∀ k, k < 96 → AI R 115 k = nI (wtab.getD k 0)
/-- what a thought of the class writes -/
def gC (a : Nat) : Prop := a = 2 ∨ a = 4 ∨ (11 ≤ a ∧ a < 17) ∨ a = 23 ∨ (30 ≤ a ∧ a < 36) ∨ a = 70 ∨ a = 72
theorem WC.mx {P : Nat → Prop} {M M' : Mem} {wi cnt night law : Nat} {σf : Nat → Sl} {w : Int64} (h : WC M wi cnt σf w night law) (hm : Mx P M M') (h1 : 1 ≤ wi) (h3 : wi ≤ 3) (hc : cnt ≤ 6) (hP : ∀ a, inW wi a → ¬ P a) : WC M' wi cnt σf w night law := by
  obtain ⟨k0, k1, k2, k3, k4⟩ := h
  have e := hm wi (hP wi (Or.inl rfl))
  refine ⟨(e.2.1 0).trans k0, (e.1 1).trans k1, (e.1 2).trans k2, (e.1 3).trans k3, fun q hq => ?_⟩
  have := slx_eq h1 h3 q
  exact (k4 q hq).mx hm (hP _ (by unfold inW; omega)) (hP _ (by unfold inW; omega))
theorem RcS.mg {M M' : Mem} {s : St} (h : RcS M s) (hw : wfSt s) (hm : Mx gC M M') : RcS M' s := by
  obtain ⟨h1, h2, h3, h4, h5, h6, h7, h8⟩ := h
  have e0 := hm 0 (by unfold gC; omega)
  have e71 := hm 71 (by unfold gC; omega)
  refine ⟨WC.mx h1 hm (by decide) (by decide) hw.1.1 (fun a ha => by unfold inW at ha; unfold gC; omega), (e0.1 8).trans h2, h3.mx hm hw.2.1.2.1 (fun a q1 q2 => by unfold gC; omega), (e0.1 9).trans h4, fun k hk => by rw [e71.2.2]; exact h5 k hk, (e0.1 10).trans h6, fun hi => WC.mx (h7 hi) hm (by decide) (by decide) (hw.2.2.2.1 hi).1.1 (fun a ha => by unfold inW at ha; unfold gC; omega), fun k hk => ?_⟩
  obtain ⟨a1, a2, a3⟩ := h8 k hk
  have e1 := hm (74 + k) (by unfold gC; omega)
  have e2 := hm (78 + k) (by unfold gC; omega)
  exact ⟨(e1.1 0).trans a1, (e1.1 1).trans a2, fun j hj => by rw [e2.2.2]; exact a3 j hj⟩
theorem RrS.rg {R R' : Mem} {s : St} (h : RrS R s) (hw : wfSt s) (hm : Rg R R') : RrS R' s := by
  obtain ⟨h1, h2, h3, h4, h5, h6, h7, h8, h9⟩ := h
  obtain ⟨m1, m2, m3, m4⟩ := hm
  obtain ⟨k0, k1, k2, k3, k4⟩ := h1
  have A : ∀ b, b ≠ 103 → b ≠ 117 → b ≠ 118 → b ≠ 120 → AI R' b = AI R b := m3
  refine ⟨⟨(m2 6).trans k0, (m1 7 (by decide) (by decide)).trans k1, (m1 13 (by decide) (by decide)).trans k2, (m1 0 (by decide) (by decide)).trans k3, fun q hq => ?_⟩, (m1 12 (by decide) (by decide)).trans h2, fun i hi => ?_, (m1 9 (by decide) (by decide)).trans h4, fun k hk => ?_, (m1 14 (by decide) (by decide)).trans h6, fun hi => ?_, fun k hk => ?_, fun k hk => ?_⟩
  · have hq6 : q < 6 := Nat.lt_of_lt_of_le hq hw.1.1
    obtain ⟨r0, r1, r2, r3, r4, r5, r6, r7, r8⟩ := k4 q hq
    refine ⟨?_, ?_, ?_, ?_, ?_, ?_, ?_, ?_, fun k hk => ?_⟩
    · rw [A 101 (by decide) (by decide) (by decide) (by decide)]; exact r0
    · rw [A 102 (by decide) (by decide) (by decide) (by decide)]; exact r1
    · rw [m4 _ (by omega)]; exact r2
    · rw [m4 _ (by omega)]; exact r3
    · rw [m4 _ (by omega)]; exact r4
    · rw [m4 _ (by omega)]; exact r5
    · rw [m4 _ (by omega)]; exact r6
    · rw [A 105 (by decide) (by decide) (by decide) (by decide)]; exact r7
    · rw [A 104 (by decide) (by decide) (by decide) (by decide)]; exact r8 k hk
  · obtain ⟨t1, t2, t3⟩ := h3 i hi
    have e1 := A 107 (by decide) (by decide) (by decide) (by decide)
    have e2 := A 108 (by decide) (by decide) (by decide) (by decide)
    exact ⟨fun p hp k hk => by rw [e1]; exact t1 p hp k hk, fun p hp => by rw [e2]; exact t2 p hp, by rw [e2]; exact t3⟩
  · rw [A 106 (by decide) (by decide) (by decide) (by decide)]; exact h5 k hk
  · obtain ⟨i1, i2, i3, i4, i5⟩ := h7 hi
    have e1 := A 110 (by decide) (by decide) (by decide) (by decide)
    have e2 := A 109 (by decide) (by decide) (by decide) (by decide)
    refine ⟨(m2 16).trans i1, by rw [e1]; exact i2, by rw [e1]; exact i3, by rw [e1]; exact i4, fun q hq => ?_⟩
    obtain ⟨r1, r2, r3, r4, r5, r6, r7⟩ := i5 q hq
    exact ⟨by rw [e2]; exact r1, by rw [e2]; exact r2, by rw [e2]; exact r3, by rw [e2]; exact r4, by rw [e2]; exact r5, by rw [e2]; exact r6, fun k hk => by rw [e2]; exact r7 k hk⟩
  · obtain ⟨a1, a2, a3⟩ := h8 k hk
    have e1 := A 111 (by decide) (by decide) (by decide) (by decide)
    have e2 := A 112 (by decide) (by decide) (by decide) (by decide)
    have e3 := A 113 (by decide) (by decide) (by decide) (by decide)
    exact ⟨by rw [e1]; exact a1, by rw [e2]; exact a2, fun j hj => by rw [e3]; exact a3 j hj⟩
  · rw [A 115 (by decide) (by decide) (by decide) (by decide)]; exact h9 k hk
/-- class and reference hold the same -/
def Sim (M R : Mem) : Prop := ∃ s, wfSt s ∧ RcS M s ∧ RrS R s
