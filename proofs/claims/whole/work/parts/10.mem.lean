/-! MEMORY BY INDICES. Class pool: 0 main; 1 2 3 worlds (truth, thought, kept); 4 ghost, 5 + 6 w + p sleepers; i + 19 the sock of sleeper i; 42 43 44 the worlds' rows of sleepers; 45 row of texts, 46 .. 51 texts, 52 .. deeds, 58 .. worths, 64 .. ends, 70 stack; 71 tape; 72 reader; 73 row of sheets, 74 .. 77 sheets, 78 .. 81 their numbers. The reference's: 100, 101 .. 120. -/
abbrev Mem : Type := (Nat → Nat → Int32) × (Nat → Nat → Int64) × (Nat → Nat → Int32) × (Nat → Nat → Int64) × Nat
def FI (M : Mem) (a k : Nat) : Int32 := M.1 a k
def FJ (M : Mem) (a k : Nat) : Int64 := M.2.1 a k
def AI (M : Mem) (a i : Nat) : Int32 := M.2.2.1 a i
def AJ (M : Mem) (a i : Nat) : Int64 := M.2.2.2.1 a i
def RF (M : Mem) : Nat := M.2.2.2.2
def up2 {α : Type} (f : Nat → Nat → α) (a k : Nat) (v : α) : Nat → Nat → α := fun a' k' => if a' = a ∧ k' = k then v else f a' k'
def upr {α : Type} (f : Nat → Nat → α) (a : Nat) (g : Nat → α) : Nat → Nat → α := fun a' k' => if a' = a then g k' else f a' k'
def sFI (M : Mem) (a k : Nat) (v : Int32) : Mem := (up2 M.1 a k v, M.2.1, M.2.2.1, M.2.2.2.1, M.2.2.2.2)
def sFJ (M : Mem) (a k : Nat) (v : Int64) : Mem := (M.1, up2 M.2.1 a k v, M.2.2.1, M.2.2.2.1, M.2.2.2.2)
def sAI (M : Mem) (a k : Nat) (v : Int32) : Mem := (M.1, M.2.1, up2 M.2.2.1 a k v, M.2.2.2.1, M.2.2.2.2)
def sAJ (M : Mem) (a k : Nat) (v : Int64) : Mem := (M.1, M.2.1, M.2.2.1, up2 M.2.2.2.1 a k v, M.2.2.2.2)
def rAI (M : Mem) (a : Nat) (g : Nat → Int32) : Mem := (M.1, M.2.1, upr M.2.2.1 a g, M.2.2.2.1, M.2.2.2.2)
def sRF (M : Mem) (r : Nat) : Mem := (M.1, M.2.1, M.2.2.1, M.2.2.2.1, r)
/-- the kinds: 0 .. 6 objects of the classes, 7 ints, 8 longs, 9 10 11 rows of sheets, sleepers, texts -/
def kd (i : Nat) : Nat := if i = 0 then 5 else if i < 4 then 4 else if i < 23 then 2 else if i < 42 then 7 else if i < 45 then 10 else if i < 46 then 11 else if i < 52 then 3 else if i < 72 then 7 else if i < 73 then 0 else if i < 74 then 9 else if i < 78 then 1 else if i < 82 then 7 else if i < 100 then 99 else if i < 101 then 6 else if i = 119 then 8 else if i < 121 then 7 else 99
def len (i : Nat) : Nat := if i < 23 then 0 else if i < 42 then 16 else if i < 45 then 6 else if i < 46 then 6 else if i < 52 then 0 else if i < 64 then 160 else if i < 70 then 3 else if i < 72 then 160 else if i < 73 then 0 else if i < 74 then 4 else if i < 78 then 0 else if i < 82 then 40 else if i < 101 then 0 else if i < 103 then 6 else if i < 104 then 30 else if i < 105 then 96 else if i < 106 then 6 else if i < 107 then 160 else if i < 108 then 1200 else if i < 109 then 24 else if i < 110 then 132 else if i < 111 then 3 else if i < 113 then 4 else if i < 114 then 160 else if i < 115 then 34 else if i < 116 then 96 else if i < 118 then 200 else if i < 120 then 6 else if i < 121 then 31 else 0
/-- rows of references -/
def AR (i k : Nat) : Nat := if i < 45 then 5 + 6 * (i - 42) + k else if i < 46 then 46 + k else 74 + k
def ent (cy : Nat → ClassId) (ad : Nat → Nat) (M : Mem) (i : Nat) : va_E := match kd i with
  | 0 => .inr (0, [.ref (ad 71), .int (FI M i 1), .int (FI M i 2), .int (FI M i 3), .int (FI M i 4), .int (FI M i 5), .ref (ad (RF M))])
  | 1 => .inr (1, [.int (FI M i 0), .int (FI M i 1), .ref (ad (i + 4))])
  | 2 => .inr (2, [.int (FI M i 0), .int (FI M i 1), .int (FI M i 2), .int (FI M i 3), .int (FI M i 4), .int (FI M i 5), .int (FI M i 6), .int (FI M i 7), .long (FJ M i 8), .ref (ad (i + 19))])
  | 3 => .inr (3, [.ref (ad (i + 6)), .ref (ad (i + 12)), .ref (ad (i + 18)), .ref (ad 70), .int (FI M i 4)])
  | 4 => .inr (4, [.long (FJ M i 0), .int (FI M i 1), .int (FI M i 2), .int (FI M i 3), .ref (ad (i + 41))])
  | 5 => .inr (5, [.ref (ad 1), .ref (ad 2), .ref (ad 3), .ref (ad 4), .ref (ad 45), .ref (ad 71), .ref (ad 72), .ref (ad 73), .int (FI M i 8), .int (FI M i 9), .int (FI M i 10)])
  | 6 => .inr (6, [.int (FI M i 0), .ref (ad 101), .ref (ad 102), .ref (ad 103), .ref (ad 104), .ref (ad 105), .long (FJ M i 6), .int (FI M i 7), .ref (ad 106), .int (FI M i 9), .ref (ad 107), .ref (ad 108), .int (FI M i 12), .int (FI M i 13), .int (FI M i 14), .ref (ad 109), .long (FJ M i 16), .ref (ad 110), .ref (ad 111), .ref (ad 112), .ref (ad 113), .ref (ad 114), .int (FI M i 22), .int (FI M i 23), .int (FI M i 24), .int (FI M i 25), .ref (ad 115), .ref (ad 116), .int (FI M i 28), .int (FI M i 29), .int (FI M i 30), .ref (ad 117), .ref (ad 118), .ref (ad 119), .int (FI M i 34), .ref (ad 120), .int (FI M i 36)])
  | 7 => .inl (cy 0, len i, .inl (AI M i))
  | 8 => .inl (cy 1, len i, .inr (.inl (AJ M i)))
  | 9 => .inl (cy 2, len i, .inr (.inr (.inr (.inr (fun k => some (ad (AR i k)))))))
  | 10 => .inl (cy 3, len i, .inr (.inr (.inr (.inr (fun k => some (ad (AR i k)))))))
  | _ => .inl (cy 4, len i, .inr (.inr (.inr (.inr (fun k => some (ad (AR i k)))))))
theorem ent_0 {cy : Nat → ClassId} {ad : Nat → Nat} {M : Mem} {i : Nat} (h : kd i = 0) : ent cy ad M i = .inr (0, [.ref (ad 71), .int (FI M i 1), .int (FI M i 2), .int (FI M i 3), .int (FI M i 4), .int (FI M i 5), .ref (ad (RF M))]) := by unfold ent; rw [h]; rfl
theorem ent_1 {cy : Nat → ClassId} {ad : Nat → Nat} {M : Mem} {i : Nat} (h : kd i = 1) : ent cy ad M i = .inr (1, [.int (FI M i 0), .int (FI M i 1), .ref (ad (i + 4))]) := by unfold ent; rw [h]; rfl
theorem ent_2 {cy : Nat → ClassId} {ad : Nat → Nat} {M : Mem} {i : Nat} (h : kd i = 2) : ent cy ad M i = .inr (2, [.int (FI M i 0), .int (FI M i 1), .int (FI M i 2), .int (FI M i 3), .int (FI M i 4), .int (FI M i 5), .int (FI M i 6), .int (FI M i 7), .long (FJ M i 8), .ref (ad (i + 19))]) := by unfold ent; rw [h]; rfl
theorem ent_3 {cy : Nat → ClassId} {ad : Nat → Nat} {M : Mem} {i : Nat} (h : kd i = 3) : ent cy ad M i = .inr (3, [.ref (ad (i + 6)), .ref (ad (i + 12)), .ref (ad (i + 18)), .ref (ad 70), .int (FI M i 4)]) := by unfold ent; rw [h]; rfl
theorem ent_4 {cy : Nat → ClassId} {ad : Nat → Nat} {M : Mem} {i : Nat} (h : kd i = 4) : ent cy ad M i = .inr (4, [.long (FJ M i 0), .int (FI M i 1), .int (FI M i 2), .int (FI M i 3), .ref (ad (i + 41))]) := by unfold ent; rw [h]; rfl
theorem ent_5 {cy : Nat → ClassId} {ad : Nat → Nat} {M : Mem} {i : Nat} (h : kd i = 5) : ent cy ad M i = .inr (5, [.ref (ad 1), .ref (ad 2), .ref (ad 3), .ref (ad 4), .ref (ad 45), .ref (ad 71), .ref (ad 72), .ref (ad 73), .int (FI M i 8), .int (FI M i 9), .int (FI M i 10)]) := by unfold ent; rw [h]; rfl
theorem ent_6 {cy : Nat → ClassId} {ad : Nat → Nat} {M : Mem} {i : Nat} (h : kd i = 6) : ent cy ad M i = .inr (6, [.int (FI M i 0), .ref (ad 101), .ref (ad 102), .ref (ad 103), .ref (ad 104), .ref (ad 105), .long (FJ M i 6), .int (FI M i 7), .ref (ad 106), .int (FI M i 9), .ref (ad 107), .ref (ad 108), .int (FI M i 12), .int (FI M i 13), .int (FI M i 14), .ref (ad 109), .long (FJ M i 16), .ref (ad 110), .ref (ad 111), .ref (ad 112), .ref (ad 113), .ref (ad 114), .int (FI M i 22), .int (FI M i 23), .int (FI M i 24), .int (FI M i 25), .ref (ad 115), .ref (ad 116), .int (FI M i 28), .int (FI M i 29), .int (FI M i 30), .ref (ad 117), .ref (ad 118), .ref (ad 119), .int (FI M i 34), .ref (ad 120), .int (FI M i 36)]) := by unfold ent; rw [h]; rfl
theorem ent_7 {cy : Nat → ClassId} {ad : Nat → Nat} {M : Mem} {i : Nat} (h : kd i = 7) : ent cy ad M i = .inl (cy 0, len i, .inl (AI M i)) := by unfold ent; rw [h]; rfl
theorem ent_8 {cy : Nat → ClassId} {ad : Nat → Nat} {M : Mem} {i : Nat} (h : kd i = 8) : ent cy ad M i = .inl (cy 1, len i, .inr (.inl (AJ M i))) := by unfold ent; rw [h]; rfl
theorem ent_9 {cy : Nat → ClassId} {ad : Nat → Nat} {M : Mem} {i : Nat} (h : kd i = 9) : ent cy ad M i = .inl (cy 2, len i, .inr (.inr (.inr (.inr (fun k => some (ad (AR i k))))))) := by unfold ent; rw [h]; rfl
theorem ent_10 {cy : Nat → ClassId} {ad : Nat → Nat} {M : Mem} {i : Nat} (h : kd i = 10) : ent cy ad M i = .inl (cy 3, len i, .inr (.inr (.inr (.inr (fun k => some (ad (AR i k))))))) := by unfold ent; rw [h]; rfl
theorem ent_11 {cy : Nat → ClassId} {ad : Nat → Nat} {M : Mem} {i : Nat} (h : kd i = 11) : ent cy ad M i = .inl (cy 4, len i, .inr (.inr (.inr (.inr (fun k => some (ad (AR i k))))))) := by unfold ent; rw [h]; rfl
theorem ent_congr {cy : Nat → ClassId} {ad : Nat → Nat} {M M' : Mem} {i : Nat} (h1 : ∀ k, FI M' i k = FI M i k) (h2 : ∀ k, FJ M' i k = FJ M i k) (h3 : ∀ k, AI M' i k = AI M i k) (h4 : ∀ k, AJ M' i k = AJ M i k) (h5 : RF M' = RF M) : ent cy ad M' i = ent cy ad M i := by
  have e3 : AI M' i = AI M i := funext h3
  have e4 : AJ M' i = AJ M i := funext h4
  unfold ent
  simp only [h1, h2, e3, e4, h5]
theorem FI_sFI (M : Mem) (a k : Nat) (v : Int32) (b j : Nat) : FI (sFI M a k v) b j = if b = a ∧ j = k then v else FI M b j := rfl
theorem FJ_sFI (M : Mem) (a k : Nat) (v : Int32) (b j : Nat) : FJ (sFI M a k v) b j = FJ M b j := rfl
theorem AI_sFI (M : Mem) (a k : Nat) (v : Int32) (b j : Nat) : AI (sFI M a k v) b j = AI M b j := rfl
theorem AJ_sFI (M : Mem) (a k : Nat) (v : Int32) (b j : Nat) : AJ (sFI M a k v) b j = AJ M b j := rfl
theorem RF_sFI (M : Mem) (a k : Nat) (v : Int32) : RF (sFI M a k v) = RF M := rfl
theorem FJ_sFJ (M : Mem) (a k : Nat) (v : Int64) (b j : Nat) : FJ (sFJ M a k v) b j = if b = a ∧ j = k then v else FJ M b j := rfl
theorem FI_sFJ (M : Mem) (a k : Nat) (v : Int64) (b j : Nat) : FI (sFJ M a k v) b j = FI M b j := rfl
theorem AI_sFJ (M : Mem) (a k : Nat) (v : Int64) (b j : Nat) : AI (sFJ M a k v) b j = AI M b j := rfl
theorem AJ_sFJ (M : Mem) (a k : Nat) (v : Int64) (b j : Nat) : AJ (sFJ M a k v) b j = AJ M b j := rfl
theorem RF_sFJ (M : Mem) (a k : Nat) (v : Int64) : RF (sFJ M a k v) = RF M := rfl
theorem AI_sAI (M : Mem) (a k : Nat) (v : Int32) (b j : Nat) : AI (sAI M a k v) b j = if b = a ∧ j = k then v else AI M b j := rfl
theorem FI_sAI (M : Mem) (a k : Nat) (v : Int32) (b j : Nat) : FI (sAI M a k v) b j = FI M b j := rfl
theorem FJ_sAI (M : Mem) (a k : Nat) (v : Int32) (b j : Nat) : FJ (sAI M a k v) b j = FJ M b j := rfl
theorem AJ_sAI (M : Mem) (a k : Nat) (v : Int32) (b j : Nat) : AJ (sAI M a k v) b j = AJ M b j := rfl
theorem RF_sAI (M : Mem) (a k : Nat) (v : Int32) : RF (sAI M a k v) = RF M := rfl
theorem AJ_sAJ (M : Mem) (a k : Nat) (v : Int64) (b j : Nat) : AJ (sAJ M a k v) b j = if b = a ∧ j = k then v else AJ M b j := rfl
theorem FI_sAJ (M : Mem) (a k : Nat) (v : Int64) (b j : Nat) : FI (sAJ M a k v) b j = FI M b j := rfl
theorem FJ_sAJ (M : Mem) (a k : Nat) (v : Int64) (b j : Nat) : FJ (sAJ M a k v) b j = FJ M b j := rfl
theorem AI_sAJ (M : Mem) (a k : Nat) (v : Int64) (b j : Nat) : AI (sAJ M a k v) b j = AI M b j := rfl
theorem RF_sAJ (M : Mem) (a k : Nat) (v : Int64) : RF (sAJ M a k v) = RF M := rfl
theorem AI_rAI (M : Mem) (a : Nat) (g : Nat → Int32) (b j : Nat) : AI (rAI M a g) b j = if b = a then g j else AI M b j := rfl
theorem FI_rAI (M : Mem) (a : Nat) (g : Nat → Int32) (b j : Nat) : FI (rAI M a g) b j = FI M b j := rfl
theorem FJ_rAI (M : Mem) (a : Nat) (g : Nat → Int32) (b j : Nat) : FJ (rAI M a g) b j = FJ M b j := rfl
theorem AJ_rAI (M : Mem) (a : Nat) (g : Nat → Int32) (b j : Nat) : AJ (rAI M a g) b j = AJ M b j := rfl
theorem RF_rAI (M : Mem) (a : Nat) (g : Nat → Int32) : RF (rAI M a g) = RF M := rfl
theorem FI_sRF (M : Mem) (r b j : Nat) : FI (sRF M r) b j = FI M b j := rfl
theorem FJ_sRF (M : Mem) (r b j : Nat) : FJ (sRF M r) b j = FJ M b j := rfl
theorem AI_sRF (M : Mem) (r b j : Nat) : AI (sRF M r) b j = AI M b j := rfl
theorem AJ_sRF (M : Mem) (r b j : Nat) : AJ (sRF M r) b j = AJ M b j := rfl
theorem RF_sRF (M : Mem) (r : Nat) : RF (sRF M r) = r := rfl
theorem eo_FI {cy : Nat → ClassId} {ad : Nat → Nat} {M : Mem} {a k : Nat} {v : Int32} : ∀ i, i ≠ a → ent cy ad (sFI M a k v) i = ent cy ad M i := fun i h => ent_congr (fun j => by rw [FI_sFI, if_neg (fun q => h q.1)]) (fun _ => rfl) (fun _ => rfl) (fun _ => rfl) rfl
theorem eo_FJ {cy : Nat → ClassId} {ad : Nat → Nat} {M : Mem} {a k : Nat} {v : Int64} : ∀ i, i ≠ a → ent cy ad (sFJ M a k v) i = ent cy ad M i := fun i h => ent_congr (fun _ => rfl) (fun j => by rw [FJ_sFJ, if_neg (fun q => h q.1)]) (fun _ => rfl) (fun _ => rfl) rfl
theorem eo_AI {cy : Nat → ClassId} {ad : Nat → Nat} {M : Mem} {a k : Nat} {v : Int32} : ∀ i, i ≠ a → ent cy ad (sAI M a k v) i = ent cy ad M i := fun i h => ent_congr (fun _ => rfl) (fun _ => rfl) (fun j => by rw [AI_sAI, if_neg (fun q => h q.1)]) (fun _ => rfl) rfl
theorem eo_AJ {cy : Nat → ClassId} {ad : Nat → Nat} {M : Mem} {a k : Nat} {v : Int64} : ∀ i, i ≠ a → ent cy ad (sAJ M a k v) i = ent cy ad M i := fun i h => ent_congr (fun _ => rfl) (fun _ => rfl) (fun _ => rfl) (fun j => by rw [AJ_sAJ, if_neg (fun q => h q.1)]) rfl
theorem eo_rAI {cy : Nat → ClassId} {ad : Nat → Nat} {M : Mem} {a : Nat} {g : Nat → Int32} : ∀ i, i ≠ a → ent cy ad (rAI M a g) i = ent cy ad M i := fun i h => ent_congr (fun _ => rfl) (fun _ => rfl) (fun j => by rw [AI_rAI, if_neg h]) (fun _ => rfl) rfl
theorem kd_big {i : Nat} (h : 121 ≤ i) : kd i = 99 := by
  unfold kd
  repeat (rw [if_neg (by omega)])
theorem kd_lt {i : Nat} (h : kd i ≠ 99) : i < 121 := Nat.lt_of_not_le fun q => h (kd_big q)
theorem kt_0 : ∀ i, i < 121 → kd i = 0 → i = 72 := by decide +kernel
theorem kt_1 : ∀ i, i < 121 → kd i = 1 → i < 82 ∧ kd (i + 4) = 7 ∧ i + 4 < 82 ∧ len (i + 4) = 40 := by decide +kernel
theorem kt_2 : ∀ i, i < 121 → kd i = 2 → i < 82 ∧ kd (i + 19) = 7 ∧ i + 19 < 82 ∧ len (i + 19) = 16 := by decide +kernel
theorem kt_3 : ∀ i, i < 121 → kd i = 3 → i < 82 ∧ (kd (i + 6) = 7 ∧ i + 6 < 82 ∧ len (i + 6) = 160) ∧ (kd (i + 12) = 7 ∧ i + 12 < 82 ∧ len (i + 12) = 160) ∧ kd (i + 18) = 7 ∧ i + 18 < 82 ∧ len (i + 18) = 3 := by decide +kernel
theorem kt_4 : ∀ i, i < 121 → kd i = 4 → i < 82 ∧ kd (i + 41) = 10 ∧ i + 41 < 82 ∧ len (i + 41) = 6 := by decide +kernel
theorem kt_x : ∀ i, i < 121 → (kd i = 5 → i < 82) ∧ (kd i = 9 → i < 82) ∧ (kd i = 10 → i < 82) ∧ (kd i = 11 → i < 82) ∧ (kd i = 6 → i = 100) ∧ (kd i = 8 → i = 119) := by decide +kernel
def inP (b n j : Nat) : Prop := b ≤ j ∧ j < b + n
theorem iL {b n j : Nat} (h : (decide (b ≤ j) && decide (j < b + n)) = true) : inP b n j := by
  simp only [Bool.and_eq_true, decide_eq_true_eq] at h
  exact h
theorem kn {i k : Nat} (h : kd i = k) (hk : k ≠ 99) : i < 121 := kd_lt (by rw [h]; exact hk)
theorem p_1 {i : Nat} (h : kd i = 1) : inP 0 82 i := ⟨Nat.zero_le _, by have := (kt_1 i (kn h (by decide)) h).1; omega⟩
theorem p_2 {i : Nat} (h : kd i = 2) : inP 0 82 i := ⟨Nat.zero_le _, by have := (kt_2 i (kn h (by decide)) h).1; omega⟩
theorem p_3 {i : Nat} (h : kd i = 3) : inP 0 82 i := ⟨Nat.zero_le _, by have := (kt_3 i (kn h (by decide)) h).1; omega⟩
theorem p_4 {i : Nat} (h : kd i = 4) : inP 0 82 i := ⟨Nat.zero_le _, by have := (kt_4 i (kn h (by decide)) h).1; omega⟩
theorem k_1_2 {i : Nat} (h : kd i = 1) : kd (i + 4) = 7 := (kt_1 i (kn h (by decide)) h).2.1
theorem p_1_2 {i : Nat} (h : kd i = 1) : inP 0 82 (i + 4) := ⟨Nat.zero_le _, by have := (kt_1 i (kn h (by decide)) h).2.2.1; omega⟩
theorem n_1_2 {i : Nat} (h : kd i = 1) : len (i + 4) = 40 := (kt_1 i (kn h (by decide)) h).2.2.2
theorem k_2_9 {i : Nat} (h : kd i = 2) : kd (i + 19) = 7 := (kt_2 i (kn h (by decide)) h).2.1
theorem p_2_9 {i : Nat} (h : kd i = 2) : inP 0 82 (i + 19) := ⟨Nat.zero_le _, by have := (kt_2 i (kn h (by decide)) h).2.2.1; omega⟩
theorem n_2_9 {i : Nat} (h : kd i = 2) : len (i + 19) = 16 := (kt_2 i (kn h (by decide)) h).2.2.2
theorem k_3_0 {i : Nat} (h : kd i = 3) : kd (i + 6) = 7 := (kt_3 i (kn h (by decide)) h).2.1.1
theorem p_3_0 {i : Nat} (h : kd i = 3) : inP 0 82 (i + 6) := ⟨Nat.zero_le _, by have := (kt_3 i (kn h (by decide)) h).2.1.2.1; omega⟩
theorem n_3_0 {i : Nat} (h : kd i = 3) : len (i + 6) = 160 := (kt_3 i (kn h (by decide)) h).2.1.2.2
theorem k_3_1 {i : Nat} (h : kd i = 3) : kd (i + 12) = 7 := (kt_3 i (kn h (by decide)) h).2.2.1.1
theorem p_3_1 {i : Nat} (h : kd i = 3) : inP 0 82 (i + 12) := ⟨Nat.zero_le _, by have := (kt_3 i (kn h (by decide)) h).2.2.1.2.1; omega⟩
theorem n_3_1 {i : Nat} (h : kd i = 3) : len (i + 12) = 160 := (kt_3 i (kn h (by decide)) h).2.2.1.2.2
theorem k_3_2 {i : Nat} (h : kd i = 3) : kd (i + 18) = 7 := (kt_3 i (kn h (by decide)) h).2.2.2.1
theorem p_3_2 {i : Nat} (h : kd i = 3) : inP 0 82 (i + 18) := ⟨Nat.zero_le _, by have := (kt_3 i (kn h (by decide)) h).2.2.2.2.1; omega⟩
theorem n_3_2 {i : Nat} (h : kd i = 3) : len (i + 18) = 3 := (kt_3 i (kn h (by decide)) h).2.2.2.2.2
theorem k_4_4 {i : Nat} (h : kd i = 4) : kd (i + 41) = 10 := (kt_4 i (kn h (by decide)) h).2.1
theorem p_4_4 {i : Nat} (h : kd i = 4) : inP 0 82 (i + 41) := ⟨Nat.zero_le _, by have := (kt_4 i (kn h (by decide)) h).2.2.1; omega⟩
theorem n_4_4 {i : Nat} (h : kd i = 4) : len (i + 41) = 6 := (kt_4 i (kn h (by decide)) h).2.2.2
theorem eo_RF {cy : Nat → ClassId} {ad : Nat → Nat} {M : Mem} {r : Nat} : ∀ i, i ≠ 72 → ent cy ad (sRF M r) i = ent cy ad M i := by
  intro i h
  have hk : kd i ≠ 0 := fun q => h (kt_0 i (kn q (by decide)) q)
  unfold ent
  split <;> first | rfl | (exfalso; exact hk (by assumption))
/-- the pool: n cells from index b on -/
def pool (cy : Nat → ClassId) (ad : Nat → Nat) (b n : Nat) (M : Mem) : va_W := (List.range n).map (fun i => (ad (b + i), ent cy ad M (b + i)))
theorem pool_at {cy : Nat → ClassId} {ad : Nat → Nat} {b n : Nat} {M : Mem} {j : Nat} (h : inP b n j) : (pool cy ad b n M)[j - b]? = some (ad j, ent cy ad M j) := by
  have h1 : j - b < n := by have := h.1; have := h.2; omega
  have h2 : b + (j - b) = j := by have := h.1; omega
  unfold pool
  rw [List.getElem?_map, List.getElem?_range h1]
  simp [h2]
theorem pool_get {cy : Nat → ClassId} {ad : Nat → Nat} {b n : Nat} {M : Mem} {k : Nat} {q : Nat × va_E} (h : (pool cy ad b n M)[k]? = some q) : k < n ∧ q = (ad (b + k), ent cy ad M (b + k)) := by
  unfold pool at h
  rw [List.getElem?_map] at h
  rcases Nat.lt_or_ge k n with hk | hk
  · rw [List.getElem?_range hk] at h
    exact ⟨hk, (Option.some.inj h).symm⟩
  · rw [List.getElem?_eq_none (by simpa using hk)] at h
    cases h
theorem pool_set {cy : Nat → ClassId} {ad : Nat → Nat} {b n : Nat} {M M' : Mem} {j : Nat} {x : va_E} (h : inP b n j) (he : ent cy ad M' j = x) (ho : ∀ i, i ≠ j → ent cy ad M' i = ent cy ad M i) : (pool cy ad b n M).set (j - b) (ad j, x) = pool cy ad b n M' := by
  have h2 : b + (j - b) = j := by have := h.1; omega
  apply List.ext_getElem?
  intro k
  rw [List.getElem?_set]
  unfold pool
  rw [List.getElem?_map, List.getElem?_map, List.length_map, List.length_range]
  by_cases hk : j - b = k
  · rw [if_pos hk]
    subst hk
    have h1 : j - b < n := by have := h.1; have := h.2; omega
    rw [if_pos h1, List.getElem?_range h1]
    simp [h2, he]
  · rw [if_neg hk]
    rcases Nat.lt_or_ge k n with q | q
    · rw [List.getElem?_range q]
      have hne : b + k ≠ j := by have := h.1; omega
      simp [ho _ hne]
    · rw [List.getElem?_eq_none (by simpa using q)]
      rfl
/-- the pool's addresses don't depend on the memory -/
theorem pool_D {cy : Nat → ClassId} {ad : Nat → Nat} {b n : Nat} {M M' : Mem} {A : Nat → Prop} (h : va_D A (pool cy ad b n M)) : va_D A (pool cy ad b n M') := by
  constructor
  · intro i j p q hi hj e
    obtain ⟨hi1, rfl⟩ := pool_get hi
    obtain ⟨hj1, rfl⟩ := pool_get hj
    have wi : (pool cy ad b n M)[i]? = some (ad (b + i), ent cy ad M (b + i)) := by
      have := pool_at (cy := cy) (ad := ad) (M := M) (b := b) (n := n) (j := b + i) ⟨by omega, by omega⟩
      rwa [Nat.add_sub_cancel_left] at this
    have wj : (pool cy ad b n M)[j]? = some (ad (b + j), ent cy ad M (b + j)) := by
      have := pool_at (cy := cy) (ad := ad) (M := M) (b := b) (n := n) (j := b + j) ⟨by omega, by omega⟩
      rwa [Nat.add_sub_cancel_left] at this
    exact h.1 i j _ _ wi wj e
  · intro k q hk
    obtain ⟨hk1, rfl⟩ := pool_get hk
    have wk : (pool cy ad b n M)[k]? = some (ad (b + k), ent cy ad M (b + k)) := by
      have := pool_at (cy := cy) (ad := ad) (M := M) (b := b) (n := n) (j := b + k) ⟨by omega, by omega⟩
      rwa [Nat.add_sub_cancel_left] at this
    exact h.2 k (ad (b + k), ent cy ad M (b + k)) wk
/-- the addresses of a pool and all that are new -/
def pA (ad : Nat → Nat) (b n sz : Nat) : Nat → Prop := fun q => (∃ k, k < n ∧ q = ad (b + k)) ∨ sz ≤ q
theorem pA_D {cy : Nat → ClassId} {ad : Nat → Nat} {b n : Nat} {M : Mem} {A : Nat → Prop} {sz : Nat} (h : va_D A (pool cy ad b n M)) : va_D (pA ad b n sz) (pool cy ad b n M) := by
  refine ⟨h.1, fun k q hk => ?_⟩
  obtain ⟨hk1, rfl⟩ := pool_get hk
  exact Or.inl ⟨k, hk1, rfl⟩
theorem pA_sub {cy : Nat → ClassId} {ad : Nat → Nat} {b n : Nat} {M : Mem} {A : Nat → Prop} {sz0 sz : Nat} (h : va_D A (pool cy ad b n M)) (h2 : ∀ q, sz0 ≤ q → A q) (h3 : sz0 ≤ sz) : ∀ q, pA ad b n sz q → A q := by
  rintro q (⟨k, hk, rfl⟩ | hq)
  · have wk : (pool cy ad b n M)[k]? = some (ad (b + k), ent cy ad M (b + k)) := by
      have := pool_at (cy := cy) (ad := ad) (M := M) (b := b) (n := n) (j := b + k) ⟨by omega, by omega⟩
      rwa [Nat.add_sub_cancel_left] at this
    exact h.2 k _ wk
  · exact h2 q (Nat.le_trans h3 hq)
abbrev tysC (cy : Nat → ClassId) : List (ClassId × FieldType) := [(cy 0, .int), (cy 1, .long), (cy 2, .object "BedsocksKeepRoads$Sheet"), (cy 3, .object "BedsocksKeepRoads$Sleeper"), (cy 4, .object "BedsocksKeepRoads$Text")]

