/-! words of the decompiled functions -/
theorem it_t {α : Type} {c : Prop} [Decidable c] {x y z : α} (hc : c) (h : (if c then x else y) = z) : x = z := (if_pos hc).symm.trans h
theorem it_f {α : Type} {c : Prop} [Decidable c] {x y z : α} (hc : ¬ c) (h : (if c then x else y) = z) : y = z := (if_neg hc).symm.trans h
def gd {α : Type} (b : Bool) (x : Option α) : Option α := if b = true then x else none
theorem gd_of {α : Type} {b : Bool} {x : Option α} {y : α} (h : gd b x = some y) : b = true ∧ x = some y := by
  unfold gd at h
  by_cases hb : b = true
  · rw [if_pos hb] at h
    exact ⟨hb, h⟩
  · rw [if_neg hb] at h
    cases h
theorem gd_t {α : Type} {b : Bool} {x : Option α} (h : b = true) : gd b x = x := if_pos h
theorem bd_of {α β : Type} {o : Option α} {k : α → Option β} {y : β} (h : o.bind k = some y) : ∃ r, o = some r ∧ k r = some y := by
  cases o with
  | none => cases h
  | some r => exact ⟨r, rfl, h⟩
def bd2 {α μ β : Type} (o : Option (α × μ)) (k : α → μ → Option β) : Option β := match o with
  | none => none
  | some (r, m) => k r m
theorem bd2_of {α μ β : Type} {o : Option (α × μ)} {k : α → μ → Option β} {y : β} (h : bd2 o k = some y) : ∃ r m, o = some (r, m) ∧ k r m = some y := by
  cases o with
  | none => cases h
  | some q => exact ⟨q.1, q.2, rfl, h⟩
theorem bd2_s {α μ β : Type} {r : α} {m : μ} {k : α → μ → Option β} : bd2 (some (r, m)) k = k r m := rfl
def oc {α β : Type} (o : Option α) (x : β) (f : α → β) : β := match o with
  | none => x
  | some j => f j
theorem oc_n {α β : Type} {x z : β} {f : α → β} (h : oc none x f = z) : x = z := h
theorem oc_s {α β : Type} {j : α} {x z : β} {f : α → β} (h : oc (some j) x f = z) : f j = z := h
theorem rw_end {α μ : Type} {x r : α} {m m' : μ} (h : some (x, m) = some (r, m')) : x = r ∧ m = m' := by
  cases h
  exact ⟨rfl, rfl⟩
theorem no_some {α : Type} {x : α} {P : Prop} (h : (none : Option α) = some x) : P := by cases h
def isK (j k : Nat) : Bool := decide (kd j = k)
theorem isK_of {j k : Nat} (h : isK j k = true) : kd j = k := of_decide_eq_true h
theorem isK_t {j k : Nat} (h : kd j = k) : isK j k = true := decide_eq_true h
def is01 (x : Int32) : Bool := decide (x = 0) || decide (x = 1)
theorem is01_e {x : Int32} (h : is01 x = true) : x = b2i (decide (x = 1)) := by
  simp only [is01, Bool.or_eq_true, decide_eq_true_eq] at h
  rcases h with rfl | rfl <;> rfl
theorem b2i_n {x : Bool} (h : b2i x = 0) : ¬ x = true := by
  rw [b2i_0 h]
  exact Bool.false_ne_true
def isCh (x : Int32) : Bool := decide (x = (x.toUInt32 % 65536).toInt32)
theorem isCh_n {x : Int32} (h : isCh x = true) : narrow .char (.int x) = .int x := by
  have e : x = (x.toUInt32 % 65536).toInt32 := of_decide_eq_true h
  rw [e]
  exact pk_nc x
