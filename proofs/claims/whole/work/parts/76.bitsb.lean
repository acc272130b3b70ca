/-! L2: how many bits: the fold, the digits -/
theorem dv8 {a r : Nat} (ha : a < 256) : (a + 256 * r) / 2 ^ 8 = r := by omega
theorem dv16 {a b r : Nat} (ha : a < 256) (hb : b < 256) : (a + 256 * (b + 256 * r)) / 2 ^ 16 = r := by omega
theorem dv32 {a b c d r : Nat} (ha : a < 256) (hb : b < 256) (hc : c < 256) (hd : d < 256) : (a + 256 * (b + 256 * (c + 256 * (d + 256 * r)))) / 2 ^ 32 = r := by omega
theorem md7 {a r : Nat} : (a + 256 * r) % 2 ^ 7 = a % 2 ^ 7 := by omega
theorem fold_8 {b0 b1 b2 b3 b4 b5 b6 b7 y z1 z2 z3 : Nat} (a0 : b0 ≤ 8) (a1 : b1 ≤ 8) (a2 : b2 ≤ 8) (a3 : b3 ≤ 8) (a4 : b4 ≤ 8) (a5 : b5 ≤ 8) (a6 : b6 ≤ 8) (a7 : b7 ≤ 8)
    (hy : y = b0 + 256 * (b1 + 256 * (b2 + 256 * (b3 + 256 * (b4 + 256 * (b5 + 256 * (b6 + 256 * b7)))))))
    (h1 : z1 = y + y / 2 ^ 8) (h2 : z2 = z1 + z1 / 2 ^ 16) (h3 : z3 = z2 + z2 / 2 ^ 32) : y < 2 ^ 60 ∧ z1 < 2 ^ 61 ∧ z2 < 2 ^ 62 ∧ z3 < 2 ^ 63 ∧ z3 % 2 ^ 7 = b0 + b1 + b2 + b3 + b4 + b5 + b6 + b7 := by
  have d1 : y / 2 ^ 8 = b1 + 256 * (b2 + 256 * (b3 + 256 * (b4 + 256 * (b5 + 256 * (b6 + 256 * b7))))) := by rw [hy]; exact dv8 (by omega)
  have z1e : z1 = (b0 + b1) + 256 * ((b1 + b2) + 256 * ((b2 + b3) + 256 * ((b3 + b4) + 256 * ((b4 + b5) + 256 * ((b5 + b6) + 256 * ((b6 + b7) + 256 * b7)))))) := by
    rw [h1, d1, hy]; clear h1 h2 h3 d1 hy a0 a1 a2 a3 a4 a5 a6 a7; omega
  have d2 : z1 / 2 ^ 16 = (b2 + b3) + 256 * ((b3 + b4) + 256 * ((b4 + b5) + 256 * ((b5 + b6) + 256 * ((b6 + b7) + 256 * b7)))) := by rw [z1e]; exact dv16 (by omega) (by omega)
  have z2e : z2 = (b0 + b1 + (b2 + b3)) + 256 * ((b1 + b2 + (b3 + b4)) + 256 * ((b2 + b3 + (b4 + b5)) + 256 * ((b3 + b4 + (b5 + b6)) + 256 * ((b4 + b5 + (b6 + b7)) + 256 * ((b5 + b6 + b7) + 256 * ((b6 + b7) + 256 * b7)))))) := by
    rw [h2, d2, z1e]; clear h1 h2 h3 d1 d2 hy z1e a0 a1 a2 a3 a4 a5 a6 a7; omega
  have d3 : z2 / 2 ^ 32 = (b4 + b5 + (b6 + b7)) + 256 * ((b5 + b6 + b7) + 256 * ((b6 + b7) + 256 * b7)) := by rw [z2e]; exact dv32 (by omega) (by omega) (by omega) (by omega)
  have z3e : z3 = (b0 + b1 + (b2 + b3) + (b4 + b5 + (b6 + b7))) + 256 * ((b1 + b2 + (b3 + b4) + (b5 + b6 + b7)) + 256 * ((b2 + b3 + (b4 + b5) + (b6 + b7)) + 256 * ((b3 + b4 + (b5 + b6) + b7) + 256 * ((b4 + b5 + (b6 + b7)) + 256 * ((b5 + b6 + b7) + 256 * ((b6 + b7) + 256 * b7)))))) := by
    rw [h3, d3, z2e]; clear h1 h2 h3 d1 d2 d3 hy z1e z2e a0 a1 a2 a3 a4 a5 a6 a7; omega
  clear h1 h2 h3 d1 d2 d3
  refine ⟨by rw [hy]; clear z1e z2e z3e hy; omega, by rw [z1e]; clear z1e z2e z3e hy; omega, by rw [z2e]; clear z1e z2e z3e hy; omega, by rw [z3e]; clear z1e z2e z3e hy; omega, ?_⟩
  rw [z3e, md7]
  clear z1e z2e z3e hy
  omega
theorem fold_by {e : Nat → Nat} (h : ∀ i, e i ≤ 8) : ∃ z1 z2 z3 : Nat, byV e 8 < 2 ^ 60 ∧ byV e 8 + byV e 8 / 2 ^ 8 = z1 ∧ z1 < 2 ^ 61 ∧ z1 + z1 / 2 ^ 16 = z2 ∧ z2 < 2 ^ 62 ∧ z2 + z2 / 2 ^ 32 = z3 ∧ z3 < 2 ^ 63 ∧ z3 % 2 ^ 7 = sumF e 8 := by
  have eV : byV e 8 = 2 ^ 8 * (2 ^ 8 * (2 ^ 8 * (2 ^ 8 * (2 ^ 8 * (2 ^ 8 * (2 ^ 8 * (2 ^ 8 * 0 + e 7) + e 6) + e 5) + e 4) + e 3) + e 2) + e 1) + e 0 := rfl
  have eS : sumF e 8 = 0 + e 0 + e 1 + e 2 + e 3 + e 4 + e 5 + e 6 + e 7 := rfl
  have hy : byV e 8 = e 0 + 256 * (e 1 + 256 * (e 2 + 256 * (e 3 + 256 * (e 4 + 256 * (e 5 + 256 * (e 6 + 256 * e 7)))))) := by rw [eV]; clear eV eS; omega
  obtain ⟨f1, f2, f3, f4, f5⟩ := fold_8 (h 0) (h 1) (h 2) (h 3) (h 4) (h 5) (h 6) (h 7) hy rfl rfl rfl
  exact ⟨_, _, _, f1, rfl, f2, rfl, f3, rfl, f4, by rw [f5, eS, Nat.zero_add]⟩
theorem dg1 (n k : Nat) : n / 2 ^ (8 * k) = 2 ^ 8 * (n / 2 ^ (8 * (k + 1))) + n / 2 ^ (8 * k) % 256 := by
  have : n / 2 ^ (8 * (k + 1)) = n / 2 ^ (8 * k) / 2 ^ 8 := by rw [Nat.div_div_eq_div_mul, ← Nat.pow_add]; rfl
  rw [this]
  omega
theorem digits_at (n : Nat) : ∀ (k j : Nat), n / 2 ^ (8 * (j + k)) = 0 → byV (fun i => n / 2 ^ (8 * (j + i)) % 256) k = n / 2 ^ (8 * j)
  | 0, j, h => h.symm
  | k + 1, j, h => by
    have ih := digits_at n k (j + 1) (by rw [show j + 1 + k = j + (k + 1) by omega]; exact h)
    show 2 ^ 8 * byV (fun i => n / 2 ^ (8 * (j + (i + 1))) % 256) k + n / 2 ^ (8 * (j + 0)) % 256 = _
    rw [show (fun i => n / 2 ^ (8 * (j + (i + 1))) % 256) = (fun i => n / 2 ^ (8 * (j + 1 + i)) % 256) from funext fun i => by rw [show j + (i + 1) = j + 1 + i by omega], ih, Nat.add_zero]
    exact (dg1 n j).symm
theorem digits {n : Nat} (h : n < 2 ^ 64) : byV (fun i => n / 2 ^ (8 * i) % 256) 8 = n := by
  have e := digits_at n 8 0 (Nat.div_eq_of_lt h)
  rw [show (fun i => n / 2 ^ (8 * (0 + i)) % 256) = (fun i => n / 2 ^ (8 * i) % 256) from funext fun i => by rw [Nat.zero_add]] at e
  rw [e]
  exact Nat.div_one n
/-- how many bits are set -/
def popL (w : Int64) : Nat := sumF (fun c => if w.toBitVec.getLsbD c = true then 1 else 0) 64
theorem sumF_add (f : Nat → Nat) : ∀ a b : Nat, sumF f (a + b) = sumF f a + sumF (fun i => f (a + i)) b
  | _, 0 => rfl
  | a, b + 1 => by
    show sumF f (a + b) + f (a + b) = sumF f a + (sumF (fun i => f (a + i)) b + f (a + b))
    rw [sumF_add f a b, Nat.add_assoc]
theorem sumF_mul (f : Nat → Nat) (m : Nat) : ∀ k : Nat, sumF f (m * k) = sumF (fun i => sumF (fun j => f (m * i + j)) m) k
  | 0 => rfl
  | k + 1 => by
    rw [Nat.mul_succ, sumF_add, sumF_mul f m k]
    rfl
theorem sumF_cong {f g : Nat → Nat} : ∀ n : Nat, (∀ k, k < n → f k = g k) → sumF f n = sumF g n
  | 0, _ => rfl
  | n + 1, h => by
    show sumF f n + f n = sumF g n + g n
    rw [sumF_cong n (fun k hk => h k (by omega)), h n (by omega)]
theorem pop_by (w : Int64) : popL w = sumF (fun i => bC (w.toBitVec.toNat / 2 ^ (8 * i) % 256)) 8 := by
  unfold popL
  refine (sumF_mul _ 8 8).trans ?_
  refine sumF_cong 8 (fun i _ => sumF_cong 8 (fun j hj => ?_))
  rw [show (256 : Nat) = 2 ^ 8 from rfl, Nat.testBit_mod_two_pow, Nat.testBit_div_two_pow, BitVec.testBit_toNat, decide_eq_true hj, Bool.true_and, Nat.add_comm]
