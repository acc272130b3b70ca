/-! L2, basics: numbers, guards, memory rows -/
theorem itLt {α : Type} {a b : Nat} {x y : α} (ha : a < 2 ^ 31) (hb : b < 2 ^ 31) : (if nI a < nI b then x else y) = (if a < b then x else y) := by
  by_cases h : a < b
  · rw [if_pos h, if_pos ((nI_ltI ha hb).mpr h)]
  · rw [if_neg h, if_neg (fun q => h ((nI_ltI ha hb).mp q))]
theorem itLe {α : Type} {a b : Nat} {x y : α} (ha : a < 2 ^ 31) (hb : b < 2 ^ 31) : (if nI a ≤ nI b then x else y) = (if a ≤ b then x else y) := by
  by_cases h : a ≤ b
  · rw [if_pos h, if_pos ((nI_leI ha hb).mpr h)]
  · rw [if_neg h, if_neg (fun q => h ((nI_leI ha hb).mp q))]
theorem itEq {α : Type} {a b : Nat} {x y : α} (ha : a < 2 ^ 31) (hb : b < 2 ^ 31) : (if nI a = nI b then x else y) = (if a = b then x else y) := by
  by_cases h : a = b
  · rw [if_pos h, if_pos ((nI_eq ha hb).mpr h)]
  · rw [if_neg h, if_neg (fun q => h ((nI_eq ha hb).mp q))]
theorem inb_nI {k n : Nat} (h : k < n) (hn : n < 2 ^ 31) : inb (nI k) n = true := by
  unfold inb
  rw [nI_clamp (by omega)]
  simp [h, nI_pos' (show k < 2 ^ 31 by omega)]
theorem ltI {a b : Nat} (ha : a < 2 ^ 31) (hb : b < 2 ^ 31) : (nI a < nI b) = (a < b) := propext (nI_ltI ha hb)
theorem leI {a b : Nat} (ha : a < 2 ^ 31) (hb : b < 2 ^ 31) : (nI a ≤ nI b) = (a ≤ b) := propext (nI_leI ha hb)
theorem eqI {a b : Nat} (ha : a < 2 ^ 31) (hb : b < 2 ^ 31) : (nI a = nI b) = (a = b) := propext (nI_eq ha hb)
theorem ltI0 {a : Nat} (ha : a < 2 ^ 31) : (nI a < 0) = False := propext ⟨fun h => absurd h (nI_pos ha), False.elim⟩
theorem leI0 {a : Nat} (ha : a < 2 ^ 31) : ((0 : Int32) ≤ nI a) = True := propext ⟨fun _ => trivial, fun _ => nI_pos' ha⟩
theorem lk_0 : (0 : Int32) = nI 0 := rfl
theorem lk_1 : (1 : Int32) = nI 1 := rfl
theorem lk_2 : (2 : Int32) = nI 2 := rfl
theorem lk_3 : (3 : Int32) = nI 3 := rfl
theorem lk_4 : (4 : Int32) = nI 4 := rfl
theorem lk_5 : (5 : Int32) = nI 5 := rfl
theorem lk_6 : (6 : Int32) = nI 6 := rfl
theorem lk_7 : (7 : Int32) = nI 7 := rfl
theorem lk_8 : (8 : Int32) = nI 8 := rfl
theorem lk_9 : (9 : Int32) = nI 9 := rfl
theorem lk_10 : (10 : Int32) = nI 10 := rfl
theorem lk_11 : (11 : Int32) = nI 11 := rfl
theorem lk_12 : (12 : Int32) = nI 12 := rfl
theorem lk_13 : (13 : Int32) = nI 13 := rfl
theorem lk_14 : (14 : Int32) = nI 14 := rfl
theorem lk_15 : (15 : Int32) = nI 15 := rfl
theorem lk_16 : (16 : Int32) = nI 16 := rfl
theorem lk_17 : (17 : Int32) = nI 17 := rfl
theorem lk_18 : (18 : Int32) = nI 18 := rfl
theorem lk_19 : (19 : Int32) = nI 19 := rfl
theorem lk_20 : (20 : Int32) = nI 20 := rfl
theorem lk_21 : (21 : Int32) = nI 21 := rfl
theorem lk_22 : (22 : Int32) = nI 22 := rfl
theorem lk_23 : (23 : Int32) = nI 23 := rfl
theorem lk_24 : (24 : Int32) = nI 24 := rfl
theorem lk_25 : (25 : Int32) = nI 25 := rfl
theorem lk_26 : (26 : Int32) = nI 26 := rfl
theorem lk_27 : (27 : Int32) = nI 27 := rfl
theorem lk_28 : (28 : Int32) = nI 28 := rfl
theorem lk_29 : (29 : Int32) = nI 29 := rfl
theorem lk_30 : (30 : Int32) = nI 30 := rfl
theorem lk_31 : (31 : Int32) = nI 31 := rfl
theorem lk_32 : (32 : Int32) = nI 32 := rfl
theorem lk_33 : (33 : Int32) = nI 33 := rfl
theorem lk_34 : (34 : Int32) = nI 34 := rfl
theorem lk_35 : (35 : Int32) = nI 35 := rfl
theorem lk_36 : (36 : Int32) = nI 36 := rfl
theorem lk_37 : (37 : Int32) = nI 37 := rfl
theorem lk_38 : (38 : Int32) = nI 38 := rfl
theorem lk_39 : (39 : Int32) = nI 39 := rfl
theorem lk_40 : (40 : Int32) = nI 40 := rfl
theorem lk_41 : (41 : Int32) = nI 41 := rfl
theorem lk_42 : (42 : Int32) = nI 42 := rfl
theorem lk_43 : (43 : Int32) = nI 43 := rfl
theorem lk_44 : (44 : Int32) = nI 44 := rfl
theorem lk_45 : (45 : Int32) = nI 45 := rfl
theorem lk_46 : (46 : Int32) = nI 46 := rfl
theorem lk_47 : (47 : Int32) = nI 47 := rfl
theorem lk_48 : (48 : Int32) = nI 48 := rfl
theorem lk_49 : (49 : Int32) = nI 49 := rfl
theorem lk_50 : (50 : Int32) = nI 50 := rfl
theorem lk_51 : (51 : Int32) = nI 51 := rfl
theorem lk_52 : (52 : Int32) = nI 52 := rfl
theorem lk_53 : (53 : Int32) = nI 53 := rfl
theorem lk_54 : (54 : Int32) = nI 54 := rfl
theorem lk_55 : (55 : Int32) = nI 55 := rfl
theorem lk_56 : (56 : Int32) = nI 56 := rfl
theorem lk_57 : (57 : Int32) = nI 57 := rfl
theorem lk_58 : (58 : Int32) = nI 58 := rfl
theorem lk_59 : (59 : Int32) = nI 59 := rfl
theorem lk_60 : (60 : Int32) = nI 60 := rfl
theorem lk_61 : (61 : Int32) = nI 61 := rfl
theorem lk_62 : (62 : Int32) = nI 62 := rfl
theorem lk_63 : (63 : Int32) = nI 63 := rfl
theorem lk_64 : (64 : Int32) = nI 64 := rfl
theorem lk_72 : (72 : Int32) = nI 72 := rfl
theorem lk_97 : (97 : Int32) = nI 97 := rfl
theorem lk_98 : (98 : Int32) = nI 98 := rfl
theorem lk_99 : (99 : Int32) = nI 99 := rfl
theorem lk_100 : (100 : Int32) = nI 100 := rfl
theorem lk_122 : (122 : Int32) = nI 122 := rfl
theorem lk_123 : (123 : Int32) = nI 123 := rfl
theorem lk_127 : (127 : Int32) = nI 127 := rfl
theorem lk_133 : (133 : Int32) = nI 133 := rfl
theorem lk_160 : (160 : Int32) = nI 160 := rfl
theorem lk_192 : (192 : Int32) = nI 192 := rfl
theorem lk_200 : (200 : Int32) = nI 200 := rfl
theorem lk_203 : (203 : Int32) = nI 203 := rfl
theorem lk_205 : (205 : Int32) = nI 205 := rfl
theorem lk_240 : (240 : Int32) = nI 240 := rfl
theorem lk_255 : (255 : Int32) = nI 255 := rfl
theorem lk_300 : (300 : Int32) = nI 300 := rfl
theorem lk_301 : (301 : Int32) = nI 301 := rfl
theorem lk_302 : (302 : Int32) = nI 302 := rfl
theorem lk_303 : (303 : Int32) = nI 303 := rfl
theorem lk_999 : (999 : Int32) = nI 999 := rfl
theorem lk_1000 : (1000 : Int32) = nI 1000 := rfl
theorem lk_99999 : (99999 : Int32) = nI 99999 := rfl
theorem lk_100000 : (100000 : Int32) = nI 100000 := rfl
theorem lk_96 : (96 : Int32) = nI 96 := rfl
theorem lk_126 : (126 : Int32) = nI 126 := rfl
theorem lk_633 : (633 : Int32) = nI 633 := rfl
theorem lk_640 : (640 : Int32) = nI 640 := rfl
theorem mm_eq {lo hi v : Int32} (h : lo.toInt ≤ hi.toInt) : (if lo < (if v < hi then v else hi) then (if v < hi then v else hi) else lo) = (if v < lo then lo else if hi < v then hi else v) := by
  simp only [Int32.lt_iff_toInt_lt]
  repeat' split
  all_goals first | rfl | (exfalso; omega) | (apply Int32.toInt_inj.mp; omega)
theorem remI {a d : Nat} (ha : a < 2 ^ 31) (h0 : 0 < d) (hd : d < 2 ^ 31) : nI a - nI a / nI d * nI d = nI (a % d) := pk_rem ha h0 hd
/-- any int against a bound of places -/
theorem ix_cases (x : Int32) {n : Nat} (hn : n < 2 ^ 31) : x < 0 ∨ (¬ x < 0 ∧ nI n ≤ x) ∨ ∃ j : Nat, j < n ∧ x = nI j := by
  rcases pk_ix x hn with h | h | h
  · exact Or.inl h
  · by_cases q : x < 0
    · exact Or.inl q
    · exact Or.inr (Or.inl ⟨q, h⟩)
  · exact Or.inr (Or.inr h)
theorem nlt_le {x y : Int32} (h : ¬ x < y) : y ≤ x := Int32.not_lt.mp h
theorem lt_nle {x y : Int32} (h : x < y) : ¬ y ≤ x := Int32.not_le.mpr h
theorem gd_tt {α : Type} (x : Option α) : gd true x = x := rfl
theorem gdn {α : Type} {x : Option α} {k n : Nat} (h : k < n) (hn : n < 2 ^ 31) : gd (inb (nI k) n) x = x := gd_t (inb_nI h hn)
theorem bind_some_ {α β : Type} (r : α) (k : α → Option β) : (some r).bind k = k r := rfl
theorem oc_none_ {α β : Type} (x : β) (f : α → β) : oc none x f = x := rfl
theorem oc_some_ {α β : Type} (j : α) (x : β) (f : α → β) : oc (some j) x f = f j := rfl
theorem AI_rAI_s (M : Mem) (a : Nat) (g : Nat → Int32) : AI (rAI M a g) a = g := by funext j; rw [AI_rAI, if_pos rfl]
theorem AI_rAI_n (M : Mem) {a b : Nat} (g : Nat → Int32) (h : b ≠ a) : AI (rAI M a g) b = AI M b := by funext j; rw [AI_rAI, if_neg h]
theorem mem_ext {M N : Mem} (h1 : ∀ a k, FI M a k = FI N a k) (h2 : ∀ a k, FJ M a k = FJ N a k) (h3 : ∀ a k, AI M a k = AI N a k) (h4 : ∀ a k, AJ M a k = AJ N a k) (h5 : RF M = RF N) : M = N := by
  obtain ⟨m1, m2, m3, m4, m5⟩ := M
  obtain ⟨n1, n2, n3, n4, n5⟩ := N
  have e1 : m1 = n1 := by funext a k; exact h1 a k
  have e2 : m2 = n2 := by funext a k; exact h2 a k
  have e3 : m3 = n3 := by funext a k; exact h3 a k
  have e4 : m4 = n4 := by funext a k; exact h4 a k
  have e5 : m5 = n5 := h5
  rw [e1, e2, e3, e4, e5]
theorem sAI_rAI (M : Mem) (a k : Nat) (g : Nat → Int32) (v : Int32) : sAI (rAI M a g) a k v = rAI M a (upd g k v) := by
  refine mem_ext (fun _ _ => rfl) (fun _ _ => rfl) (fun a' k' => ?_) (fun _ _ => rfl) rfl
  rw [AI_sAI, AI_rAI, AI_rAI]
  unfold upd
  by_cases h1 : a' = a <;> by_cases h2 : k' = k <;> simp [h1, h2]
theorem rAI_rAI (M : Mem) (a : Nat) (g h : Nat → Int32) : rAI (rAI M a g) a h = rAI M a h := by
  refine mem_ext (fun _ _ => rfl) (fun _ _ => rfl) (fun a' k' => ?_) (fun _ _ => rfl) rfl
  rw [AI_rAI, AI_rAI, AI_rAI]
  by_cases h1 : a' = a <;> simp [h1]
theorem rAI_self (M : Mem) (a : Nat) : rAI M a (AI M a) = M := by
  refine mem_ext (fun _ _ => rfl) (fun _ _ => rfl) (fun a' k' => ?_) (fun _ _ => rfl) rfl
  rw [AI_rAI]
  by_cases h1 : a' = a <;> simp [h1]
theorem sAI_as (M : Mem) (a k : Nat) (v : Int32) : sAI M a k v = rAI M a (upd (AI M a) k v) := by
  rw [← sAI_rAI, rAI_self]
theorem kt_3b : ∀ i, i < 121 → kd i = 3 → 46 ≤ i ∧ i < 52 := by decide +kernel
theorem kt_2b : ∀ i, i < 121 → kd i = 2 → 4 ≤ i ∧ i < 23 := by decide +kernel
theorem kd3 {i : Nat} (h : kd i = 3) : 46 ≤ i ∧ i < 52 := kt_3b i (kn h (by decide)) h
theorem kd2 {i : Nat} (h : kd i = 2) : 4 ≤ i ∧ i < 23 := kt_2b i (kn h (by decide)) h
/-- what a deed of a text is: (0, n) a number, (1, k) a name, 2 minus one, 3 not, 4 .. 10 of two -/
abbrev Op : Type := Nat × Nat
def one1 (d : Nat) (a : Int32) : Int32 := if d = 2 then -a else if a = 0 then 1 else 0
def two2 (d : Nat) (a b : Int32) : Int32 :=
  if d = 4 then a * b else if d = 5 then a + b else if d = 6 then a - b else if d = 7 then (if a < b then 1 else 0) else if d = 8 then (if a = b then 1 else 0) else if d = 9 then (if a ≠ 0 ∧ b ≠ 0 then 1 else 0) else if a ≠ 0 ∨ b ≠ 0 then 1 else 0
def stp (nm : Nat → Int32) (st : List Int32) (o : Op) : List Int32 :=
  if o.1 = 0 then nI o.2 :: st else if o.1 = 1 then nm o.2 :: st else if o.1 = 2 ∨ o.1 = 3 then (match st with
    | a :: r => one1 o.1 a :: r
    | [] => []) else (match st with
    | b :: a :: r => two2 o.1 a b :: r
    | _ => st)
def okO (o : Op) : Prop := o.1 ≤ 10 ∧ (o.1 = 0 → o.2 < 10000) ∧ (o.1 = 1 → o.2 < 6)
/-- a part's deeds leave one number: from n numbers on -/
def wfp : Nat → List Op → Prop
  | n, [] => n = 1
  | n, o :: r => okO o ∧ (if o.1 = 0 ∨ o.1 = 1 then wfp (n + 1) r else if o.1 = 2 ∨ o.1 = 3 then 1 ≤ n ∧ wfp n r else 2 ≤ n ∧ wfp (n - 1) r)
def evL (nm : Nat → Int32) (ps : List Op) (st : List Int32) : List Int32 := ps.foldl (stp nm) st
def evP (nm : Nat → Int32) (ps : List Op) : Int32 := (evL nm ps []).getD 0 0
/-- a text: the deeds of its three parts -/
abbrev Txt : Type := List Op × List Op × List Op
def tP (x : Txt) (p : Nat) : List Op := if p = 0 then x.1 else if p = 1 then x.2.1 else x.2.2
def tB (x : Txt) (p : Nat) : Nat := if p = 0 then 0 else if p = 1 then x.1.length else x.1.length + x.2.1.length
def tE (x : Txt) (p : Nat) : Nat := tB x p + (tP x p).length
def wfT (x : Txt) : Prop := (∀ p, p < 3 → wfp 0 (tP x p)) ∧ x.1.length + x.2.1.length + x.2.2.length ≤ 160
def bnd (p : Nat) (v : Int32) : Int32 := if p = 0 then (if v < 0 then 0 else if 20 < v then 20 else v) else if p = 1 then (if v < -99 then -99 else if 99 < v then 99 else v) else (if v < 0 then 0 else if 99 < v then 99 else v)
