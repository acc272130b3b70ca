/-! L2: how many bits: by bytes -/
theorem msk2 {s a r μ m : Nat} (hs : s ≤ 8) (ha : a < 2 ^ 8) (hμ : μ < 2 ^ (8 - s)) : ((2 ^ 8 * r + a) / 2 ^ s) &&& (2 ^ 8 * m + μ) = 2 ^ 8 * ((r / 2 ^ s) &&& m) + ((a / 2 ^ s) &&& μ) := by
  have hμ8 : μ < 2 ^ 8 := Nat.lt_of_lt_of_le hμ (Nat.pow_le_pow_right (by decide) (by omega))
  have hb : (a / 2 ^ s) &&& μ < 2 ^ 8 := Nat.lt_of_le_of_lt Nat.and_le_right hμ8
  refine Nat.eq_of_testBit_eq fun j => ?_
  rw [Nat.testBit_and, Nat.testBit_div_two_pow, Nat.testBit_two_pow_mul_add _ ha, Nat.testBit_two_pow_mul_add _ hμ8, Nat.testBit_two_pow_mul_add _ hb]
  by_cases h : j < 8
  · rw [if_pos h, if_pos h, Nat.testBit_and, Nat.testBit_div_two_pow]
    by_cases h2 : j + s < 8
    · rw [if_pos h2]
    · have : μ.testBit j = false := Nat.testBit_lt_two_pow (Nat.lt_of_lt_of_le hμ (Nat.pow_le_pow_right (by decide) (by omega)))
      rw [this, Bool.and_false, Bool.and_false]
  · rw [if_neg h, if_neg h, if_neg (by omega), Nat.testBit_and, Nat.testBit_div_two_pow, show j + s - 8 = j - 8 + s by omega]
/-- k bytes -/
def byV (f : Nat → Nat) : Nat → Nat
  | 0 => 0
  | k + 1 => 2 ^ 8 * byV (fun i => f (i + 1)) k + f 0
theorem byV_msk {s μ : Nat} (hs : s ≤ 8) (hμ : μ < 2 ^ (8 - s)) : ∀ (k : Nat) (f : Nat → Nat), (∀ i, i < k → f i < 2 ^ 8) → (byV f k / 2 ^ s) &&& byV (fun _ => μ) k = byV (fun i => (f i / 2 ^ s) &&& μ) k
  | 0, _, _ => by simp [byV]
  | k + 1, f, h => by
    show ((2 ^ 8 * byV (fun i => f (i + 1)) k + f 0) / 2 ^ s) &&& (2 ^ 8 * byV (fun _ => μ) k + μ) = _
    rw [msk2 hs (h 0 (by omega)) hμ, byV_msk hs hμ k _ (fun i hi => h (i + 1) (by omega))]
    rfl
theorem byV_add : ∀ (k : Nat) (f g : Nat → Nat), byV f k + byV g k = byV (fun i => f i + g i) k
  | 0, _, _ => rfl
  | k + 1, f, g => by
    have h := byV_add k (fun i => f (i + 1)) (fun i => g (i + 1))
    show 2 ^ 8 * byV (fun i => f (i + 1)) k + f 0 + (2 ^ 8 * byV (fun i => g (i + 1)) k + g 0) = 2 ^ 8 * byV (fun i => f (i + 1) + g (i + 1)) k + (f 0 + g 0)
    rw [← h]
    omega
theorem byV_sub : ∀ (k : Nat) (f g : Nat → Nat), (∀ i, i < k → g i ≤ f i) → byV g k ≤ byV f k ∧ byV f k - byV g k = byV (fun i => f i - g i) k
  | 0, _, _, _ => ⟨Nat.le_refl _, rfl⟩
  | k + 1, f, g, h => by
    obtain ⟨h1, h2⟩ := byV_sub k (fun i => f (i + 1)) (fun i => g (i + 1)) (fun i hi => h (i + 1) (by omega))
    have h0 := h 0 (by omega)
    show 2 ^ 8 * byV (fun i => g (i + 1)) k + g 0 ≤ 2 ^ 8 * byV (fun i => f (i + 1)) k + f 0 ∧ 2 ^ 8 * byV (fun i => f (i + 1)) k + f 0 - (2 ^ 8 * byV (fun i => g (i + 1)) k + g 0) = 2 ^ 8 * byV (fun i => f (i + 1) - g (i + 1)) k + (f 0 - g 0)
    rw [← h2]
    omega
theorem byV_lt : ∀ (k : Nat) (f : Nat → Nat), (∀ i, i < k → f i < 2 ^ 8) → byV f k < 2 ^ (8 * k)
  | 0, _, _ => by simp [byV]
  | k + 1, f, h => by
    have h1 := byV_lt k (fun i => f (i + 1)) (fun i hi => h (i + 1) (by omega))
    have h0 := h 0 (by omega)
    show 2 ^ 8 * byV (fun i => f (i + 1)) k + f 0 < _
    rw [show 8 * (k + 1) = 8 * k + 8 by omega, Nat.pow_add]
    omega
theorem byV_cong : ∀ (k : Nat) (f g : Nat → Nat), (∀ i, i < k → f i = g i) → byV f k = byV g k
  | 0, _, _, _ => rfl
  | k + 1, f, g, h => by
    show 2 ^ 8 * byV (fun i => f (i + 1)) k + f 0 = 2 ^ 8 * byV (fun i => g (i + 1)) k + g 0
    rw [byV_cong k _ _ (fun i hi => h (i + 1) (by omega)), h 0 (by omega)]
theorem byV_16 : ∀ (k : Nat) (f : Nat → Nat), f k = 0 → byV f k / 16 = byV (fun i => f i / 16 + 16 * (f (i + 1) % 16)) k
  | 0, _, _ => Nat.zero_div 16
  | k + 1, f, h => by
    have ih := byV_16 k (fun i => f (i + 1)) h
    show (2 ^ 8 * byV (fun i => f (i + 1)) k + f 0) / 16 = 2 ^ 8 * byV (fun i => f (i + 1) / 16 + 16 * (f (i + 1 + 1) % 16)) k + (f 0 / 16 + 16 * (f (0 + 1) % 16))
    rw [← ih]
    have h1 : byV (fun i => f (i + 1)) k % 16 = f (0 + 1) % 16 := by
      cases k with
      | zero => rw [h]; rfl
      | succ k =>
        show (2 ^ 8 * byV (fun i => f (i + 1 + 1)) k + f (0 + 1)) % 16 = _
        omega
    omega
def cB (b : Nat) : Nat := b - ((b / 2 ^ 1) &&& 85)
def dB (b : Nat) : Nat := (cB b &&& 51) + ((cB b / 2 ^ 2) &&& 51)
def eB (b : Nat) : Nat := (dB b + dB b / 16) % 16
def bC (b : Nat) : Nat := sumF (fun j => if b.testBit j = true then 1 else 0) 8
theorem by_tab : ∀ b, b < 256 → (b / 2 ^ 1) &&& 85 ≤ b ∧ cB b < 256 ∧ dB b < 256 ∧ dB b % 16 ≤ 4 ∧ dB b / 16 ≤ 4 ∧ eB b = bC b ∧ eB b ≤ 8 := by decide +kernel
/-- the count in numbers: bytes f -/
theorem cnt_by {f : Nat → Nat} (hf : ∀ i, f i < 256) (h8 : f 8 = 0) : ∃ y1 y2 y3 : Nat, byV f 8 - ((byV f 8 / 2 ^ 1) &&& byV (fun _ => 85) 8) = y1 ∧ (byV f 8 / 2 ^ 1) &&& byV (fun _ => 85) 8 ≤ byV f 8 ∧ y1 < 2 ^ 64 ∧ (y1 &&& byV (fun _ => 51) 8) + ((y1 / 2 ^ 2) &&& byV (fun _ => 51) 8) = y2 ∧ y2 < 2 ^ 64 ∧ y2 + y2 / 2 ^ 4 < 2 ^ 64 ∧ (y2 + y2 / 2 ^ 4) &&& byV (fun _ => 15) 8 = y3 ∧ y3 = byV (fun i => eB (f i)) 8 := by
  have t := fun i => by_tab (f i) (hf i)
  have m1 := byV_msk (s := 1) (μ := 85) (by decide) (by decide) 8 f (fun i _ => hf i)
  have s1 := byV_sub 8 f (fun i => (f i / 2 ^ 1) &&& 85) (fun i _ => (t i).1)
  have e1 : byV f 8 - ((byV f 8 / 2 ^ 1) &&& byV (fun _ => 85) 8) = byV (fun i => cB (f i)) 8 := by rw [m1]; exact s1.2
  have m2 := byV_msk (s := 0) (μ := 51) (by decide) (by decide) 8 (fun i => cB (f i)) (fun i _ => (t i).2.1)
  have m3 := byV_msk (s := 2) (μ := 51) (by decide) (by decide) 8 (fun i => cB (f i)) (fun i _ => (t i).2.1)
  have e2 : (byV (fun i => cB (f i)) 8 &&& byV (fun _ => 51) 8) + ((byV (fun i => cB (f i)) 8 / 2 ^ 2) &&& byV (fun _ => 51) 8) = byV (fun i => dB (f i)) 8 := by
    rw [m3]
    rw [show byV (fun i => cB (f i)) 8 / 2 ^ 0 = byV (fun i => cB (f i)) 8 from Nat.div_one _] at m2
    rw [m2, byV_add]
    exact byV_cong 8 _ _ (fun i _ => by show (cB (f i) / 2 ^ 0 &&& 51) + _ = _; rw [show cB (f i) / 2 ^ 0 = cB (f i) from Nat.div_one _]; rfl)
  have e3 : byV (fun i => dB (f i)) 8 + byV (fun i => dB (f i)) 8 / 2 ^ 4 = byV (fun i => dB (f i) + (dB (f i) / 16 + 16 * (dB (f (i + 1)) % 16))) 8 := by
    rw [show (2 : Nat) ^ 4 = 16 from rfl, byV_16 8 (fun i => dB (f i)) (by show dB (f 8) = 0; rw [h8]; rfl), byV_add]
  have l3 : ∀ i, dB (f i) + (dB (f i) / 16 + 16 * (dB (f (i + 1)) % 16)) < 2 ^ 8 := fun i => by
    have a := (t i).2.2
    have b := (t (i + 1)).2.2
    omega
  have m4 := byV_msk (s := 0) (μ := 15) (by decide) (by decide) 8 (fun i => dB (f i) + (dB (f i) / 16 + 16 * (dB (f (i + 1)) % 16))) (fun i _ => l3 i)
  refine ⟨byV (fun i => cB (f i)) 8, byV (fun i => dB (f i)) 8, byV (fun i => eB (f i)) 8, e1, by rw [m1]; exact s1.1, byV_lt 8 _ (fun i _ => (t i).2.1), e2, byV_lt 8 _ (fun i _ => (t i).2.2.1), by rw [e3]; exact byV_lt 8 _ (fun i _ => l3 i), ?_, rfl⟩
  rw [show byV (fun i => dB (f i) + (dB (f i) / 16 + 16 * (dB (f (i + 1)) % 16))) 8 / 2 ^ 0 = _ from Nat.div_one _] at m4
  rw [e3, m4]
  refine byV_cong 8 _ _ (fun i _ => ?_)
  show (dB (f i) + (dB (f i) / 16 + 16 * (dB (f (i + 1)) % 16))) / 2 ^ 0 &&& 2 ^ 4 - 1 = _
  rw [show (2 : Nat) ^ 0 = 1 from rfl, Nat.div_one, Nat.and_two_pow_sub_one_eq_mod]
  unfold eB
  omega
