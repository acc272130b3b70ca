/-! L2: the two readers read the same: the steps of the machine -/
def PG (tk nx vl : Nat → Nat) (n : Nat) : Prop := ∀ a, a ≤ n → nx a ≤ n ∧ (tk a ≠ 302 → a < nx a) ∧ okT (tk a) ∧ (tk a = 300 → vl a < 10000) ∧ (tk a = 301 → vl a < 6)
abbrev KT : Type := Bool → Bool → Nat → List Nat → Nat → List Nat → Bool × Nat × List Nat
def nz (r : Bool × Nat × List Nat) : Bool × Nat × List Nat := if r.1 = true then r else (false, r.2.1, [])
theorem nz_f (a : Nat) (o : List Nat) : nz (false, a, o) = (false, a, []) := rfl
def kB (tk nx vl : Nat → Nat) (K : KT) (w m : Bool) (a : Nat) (h : List Nat) (x : Nat) (o : List Nat) : Bool × Nat × List Nat :=
    if w = true then
      if tk a = 300 then K false m (nx a) (uwH 7 h) (uwX 7 h x) (o ++ (100000 + vl a) :: uwE 7 h)
      else if tk a = 301 then K false m (nx a) (uwH 7 h) (uwX 7 h x) (o ++ vl a :: uwE 7 h)
      else if tk a = 205 ∧ m = true then (if x = 5 then (false, a, o) else K true m (nx a) (13 :: h) (x + 1) o)
      else if tk a = 45 then (if x = 5 then (false, a, o) else K true false (nx a) (19 :: h) (x + 1) o)
      else if tk a = 40 then (if x = 5 then (false, a, o) else K true true (nx a) (0 :: h) (x + 1) o)
      else (false, a, o)
    else if tk a = 59 then (decide (uwH 1 h = []), a, o ++ uwE 1 h)
    else if tk a = 41 then (match uwH 1 h with
      | [] => (false, a, o ++ uwE 1 h)
      | _ :: h' => K false m (nx a) (uwH 7 h') (uwX 7 h' (uwX 1 h x - 1)) (o ++ uwE 1 h ++ uwE 7 h'))
    else match sgO (tk a) with
      | none => (false, a, o)
      | some s => if rkS s = 4 ∧ hdR (uwH (lvS s) h) = 4 then (false, a, o ++ uwE (lvS s) h) else K true (decide (s ≤ 12)) (nx a) (s :: uwH (lvS s) h) (uwX (lvS s) h x) (o ++ uwE (lvS s) h)
theorem kR_B (tk nx vl : Nat → Nat) (f : Nat) (w m : Bool) (a : Nat) (h : List Nat) (x : Nat) (o : List Nat) : kR tk nx vl (f + 1) w m a h x o = kB tk nx vl (kR tk nx vl f) w m a h x o := rfl
theorem kB_ex {tk nx vl : Nat → Nat} {K K' : KT} {a : Nat} (g : tk a ≠ 302 → ∀ w m h x o, K w m (nx a) h x o = K' w m (nx a) h x o) (w m : Bool) (h : List Nat) (x : Nat) (o : List Nat) : kB tk nx vl K w m a h x o = kB tk nx vl K' w m a h x o := by
  unfold kB
  by_cases q : tk a = 302
  · rw [q]
    cases w <;> rfl
  · simp only [g q]
theorem kR_fu {tk nx vl : Nat → Nat} {n : Nat} (P : PG tk nx vl n) : ∀ (f f' a : Nat), a ≤ n → n - a < f → n - a < f' → ∀ (w m : Bool) (h : List Nat) (x : Nat) (o : List Nat), kR tk nx vl f w m a h x o = kR tk nx vl f' w m a h x o := by
  intro f
  induction f with
  | zero => intro f' a _ h1; omega
  | succ f ih =>
    intro f' a ha h1 h2 w m h x o
    obtain ⟨f', rfl⟩ : ∃ z, f' = z + 1 := ⟨f' - 1, by omega⟩
    obtain ⟨p1, p2, -⟩ := P a ha
    rw [kR_B, kR_B]
    refine kB_ex (fun q w m h x o => ?_) w m h x o
    have := p2 q
    exact ih f' (nx a) p1 (by omega) (by omega) w m h x o
theorem kR_m (tk nx vl : Nat → Nat) : ∀ (f : Nat) (m m' : Bool) (a : Nat) (h : List Nat) (x : Nat) (o : List Nat), kR tk nx vl f false m a h x o = kR tk nx vl f false m' a h x o := by
  intro f
  induction f with
  | zero => intro m m' a h x o; rfl
  | succ f ih =>
    intro m m' a h x o
    rw [kR_B, kR_B]
    unfold kB
    rw [if_neg Bool.false_ne_true, if_neg Bool.false_ne_true]
    simp only [ih m m']
def kNN (tk nx vl : Nat → Nat) (n : Nat) : KT := fun w m a h x o => kR tk nx vl (n + 1 - a) w m a h x o
/-- the machine from a on, as long as it takes -/
def kk (tk nx vl : Nat → Nat) (n : Nat) (w m : Bool) (a : Nat) (h : List Nat) (x : Nat) (o : List Nat) : Bool × Nat × List Nat := nz (kNN tk nx vl n w m a h x o)
def kF (tk nx vl : Nat → Nat) (n : Nat) (a : Nat) (h : List Nat) (x : Nat) (o : List Nat) : Bool × Nat × List Nat := kk tk nx vl n false false a h x o
theorem kk_m (tk nx vl : Nat → Nat) (n : Nat) (m : Bool) (a : Nat) (h : List Nat) (x : Nat) (o : List Nat) : kk tk nx vl n false m a h x o = kF tk nx vl n a h x o := by
  unfold kF kk kNN
  rw [kR_m tk nx vl _ m false]
theorem kk_eq {tk nx vl : Nat → Nat} {n a : Nat} (P : PG tk nx vl n) (ha : a ≤ n) (w m : Bool) (h : List Nat) (x : Nat) (o : List Nat) : kk tk nx vl n w m a h x o = nz (kB tk nx vl (kNN tk nx vl n) w m a h x o) := by
  obtain ⟨p1, p2, -⟩ := P a ha
  unfold kk
  congr 1
  show kR tk nx vl (n + 1 - a) w m a h x o = _
  rw [show n + 1 - a = (n - a) + 1 by omega, kR_B]
  refine kB_ex (fun q w m h x o => ?_) w m h x o
  have := p2 q
  exact kR_fu P (n - a) (n + 1 - nx a) (nx a) p1 (by omega) (by omega) w m h x o
theorem kk_300 {tk nx vl : Nat → Nat} {n a : Nat} (P : PG tk nx vl n) (ha : a ≤ n) (t : tk a = 300) (m : Bool) (h : List Nat) (x : Nat) (o : List Nat) : kk tk nx vl n true m a h x o = kF tk nx vl n (nx a) (uwH 7 h) (uwX 7 h x) (o ++ (100000 + vl a) :: uwE 7 h) := by
  rw [kk_eq P ha, ← kk_m tk nx vl n m]
  unfold kB
  rw [if_pos rfl, if_pos t]
  rfl
theorem kk_301 {tk nx vl : Nat → Nat} {n a : Nat} (P : PG tk nx vl n) (ha : a ≤ n) (t : tk a = 301) (m : Bool) (h : List Nat) (x : Nat) (o : List Nat) : kk tk nx vl n true m a h x o = kF tk nx vl n (nx a) (uwH 7 h) (uwX 7 h x) (o ++ vl a :: uwE 7 h) := by
  rw [kk_eq P ha, ← kk_m tk nx vl n m]
  unfold kB
  rw [if_pos rfl, if_neg (show ¬ tk a = 300 by omega), if_pos t]
  rfl
theorem kk_205 {tk nx vl : Nat → Nat} {n a : Nat} (P : PG tk nx vl n) (ha : a ≤ n) (t : tk a = 205) (h : List Nat) (x : Nat) (o : List Nat) : kk tk nx vl n true true a h x o = if x = 5 then (false, a, []) else kk tk nx vl n true true (nx a) (13 :: h) (x + 1) o := by
  rw [kk_eq P ha]
  unfold kB
  rw [if_pos rfl, if_neg (show ¬ tk a = 300 by omega), if_neg (show ¬ tk a = 301 by omega), if_pos ⟨t, rfl⟩]
  by_cases q : x = 5
  · rw [if_pos q, if_pos q]; rfl
  · rw [if_neg q, if_neg q]; rfl
theorem kk_45 {tk nx vl : Nat → Nat} {n a : Nat} (P : PG tk nx vl n) (ha : a ≤ n) (t : tk a = 45) (m : Bool) (h : List Nat) (x : Nat) (o : List Nat) : kk tk nx vl n true m a h x o = if x = 5 then (false, a, []) else kk tk nx vl n true false (nx a) (19 :: h) (x + 1) o := by
  rw [kk_eq P ha]
  unfold kB
  rw [if_pos rfl, if_neg (show ¬ tk a = 300 by omega), if_neg (show ¬ tk a = 301 by omega), if_neg (show ¬ (tk a = 205 ∧ m = true) by omega), if_pos t]
  by_cases q : x = 5
  · rw [if_pos q, if_pos q]; rfl
  · rw [if_neg q, if_neg q]; rfl
theorem kk_40 {tk nx vl : Nat → Nat} {n a : Nat} (P : PG tk nx vl n) (ha : a ≤ n) (t : tk a = 40) (m : Bool) (h : List Nat) (x : Nat) (o : List Nat) : kk tk nx vl n true m a h x o = if x = 5 then (false, a, []) else kk tk nx vl n true true (nx a) (0 :: h) (x + 1) o := by
  rw [kk_eq P ha]
  unfold kB
  rw [if_pos rfl, if_neg (show ¬ tk a = 300 by omega), if_neg (show ¬ tk a = 301 by omega), if_neg (show ¬ (tk a = 205 ∧ m = true) by omega), if_neg (show ¬ tk a = 45 by omega), if_pos t]
  by_cases q : x = 5
  · rw [if_pos q, if_pos q]; rfl
  · rw [if_neg q, if_neg q]; rfl
theorem kk_no {tk nx vl : Nat → Nat} {n a : Nat} (P : PG tk nx vl n) (ha : a ≤ n) {m : Bool} (t0 : tk a ≠ 300) (t1 : tk a ≠ 301) (t2 : tk a ≠ 205 ∨ m = false) (t3 : tk a ≠ 45) (t4 : tk a ≠ 40) (h : List Nat) (x : Nat) (o : List Nat) : kk tk nx vl n true m a h x o = (false, a, []) := by
  rw [kk_eq P ha]
  unfold kB
  rw [if_pos rfl, if_neg t0, if_neg t1, if_neg (show ¬ (tk a = 205 ∧ m = true) from fun z => t2.elim (fun q => q z.1) (fun q => Bool.false_ne_true (q.symm.trans z.2))), if_neg t3, if_neg t4]
  rfl
theorem kF_59 {tk nx vl : Nat → Nat} {n a : Nat} (P : PG tk nx vl n) (ha : a ≤ n) (t : tk a = 59) (h : List Nat) (x : Nat) (o : List Nat) : kF tk nx vl n a h x o = if uwH 1 h = [] then (true, a, o ++ uwE 1 h) else (false, a, []) := by
  unfold kF
  rw [kk_eq P ha]
  unfold kB
  rw [if_neg Bool.false_ne_true, if_pos t]
  by_cases q : uwH 1 h = []
  · rw [if_pos q, decide_eq_true q]; rfl
  · rw [if_neg q, decide_eq_false q]; rfl
theorem kF_41 {tk nx vl : Nat → Nat} {n a : Nat} (P : PG tk nx vl n) (ha : a ≤ n) (t : tk a = 41) (h : List Nat) (x : Nat) (o : List Nat) : kF tk nx vl n a h x o = match uwH 1 h with
      | [] => (false, a, [])
      | _ :: h' => kF tk nx vl n (nx a) (uwH 7 h') (uwX 7 h' (uwX 1 h x - 1)) (o ++ uwE 1 h ++ uwE 7 h') := by
  unfold kF
  rw [kk_eq P ha]
  unfold kB
  rw [if_neg Bool.false_ne_true, if_neg (show ¬ tk a = 59 by omega), if_pos t]
  cases uwH 1 h <;> rfl
theorem kF_sg {tk nx vl : Nat → Nat} {n a s : Nat} (P : PG tk nx vl n) (ha : a ≤ n) (t : sgO (tk a) = some s) (h : List Nat) (x : Nat) (o : List Nat) : kF tk nx vl n a h x o = if rkS s = 4 ∧ hdR (uwH (lvS s) h) = 4 then (false, a, []) else kk tk nx vl n true (decide (s ≤ 12)) (nx a) (s :: uwH (lvS s) h) (uwX (lvS s) h x) (o ++ uwE (lvS s) h) := by
  unfold kF
  rw [kk_eq P ha]
  unfold kB
  rw [if_neg Bool.false_ne_true, if_neg (show ¬ tk a = 59 from fun q => by rw [q] at t; cases t), if_neg (show ¬ tk a = 41 from fun q => by rw [q] at t; cases t), t]
  dsimp only
  by_cases q : rkS s = 4 ∧ hdR (uwH (lvS s) h) = 4
  · rw [if_pos q, if_pos q]; rfl
  · rw [if_neg q, if_neg q]; rfl
theorem kF_no {tk nx vl : Nat → Nat} {n a : Nat} (P : PG tk nx vl n) (ha : a ≤ n) (t0 : tk a ≠ 59) (t1 : tk a ≠ 41) (t : sgO (tk a) = none) (h : List Nat) (x : Nat) (o : List Nat) : kF tk nx vl n a h x o = (false, a, []) := by
  unfold kF
  rw [kk_eq P ha]
  unfold kB
  rw [if_neg Bool.false_ne_true, if_neg t0, if_neg t1, t]
  rfl
theorem uw_cp {l r : Nat} (hlr : l ≤ r) : ∀ (h : List Nat) (x : Nat), uwH l (uwH r h) = uwH l h ∧ uwX l (uwH r h) (uwX r h x) = uwX l h x ∧ uwE r h ++ uwE l (uwH r h) = uwE l h
  | [], x => ⟨rfl, rfl, rfl⟩
  | s :: h, x => by
    by_cases q : rkS s < r
    · rw [show uwH r (s :: h) = s :: h from if_pos q, show uwX r (s :: h) x = x from if_pos q, show uwE r (s :: h) = [] from if_pos q]
      exact ⟨rfl, rfl, rfl⟩
    · have q2 : ¬ rkS s < l := by omega
      rw [show uwH r (s :: h) = uwH r h from if_neg q, show uwX r (s :: h) x = uwX r h (x - isO s) from if_neg q, show uwE r (s :: h) = s :: uwE r h from if_neg q, show uwH l (s :: h) = uwH l h from if_neg q2, show uwX l (s :: h) x = uwX l h (x - isO s) from if_neg q2, show uwE l (s :: h) = s :: uwE l h from if_neg q2]
      obtain ⟨h1, h2, h3⟩ := uw_cp hlr h (x - isO s)
      exact ⟨h1, h2, by rw [List.cons_append, h3]⟩
/-- how far a token unwinds -/
def lvT (t : Nat) : Nat := if t = 59 ∨ t = 41 ∨ t = 203 then 1 else if t = 204 then 2 else if t = 60 ∨ t = 61 ∨ t = 43 ∨ t = 45 then 5 else if t = 42 then 6 else 0
theorem lv_tab : ∀ t, okT t → lvT t ≤ 6 ∧ (t = 59 ∨ t = 41 → lvT t = 1) ∧ (∀ s, sgO t = some s → lvS s = lvT t) := by
  intro t h
  unfold okT at h
  rcases h with rfl | rfl | rfl | rfl | rfl | rfl | rfl | rfl | rfl | rfl | rfl | rfl | rfl | rfl | rfl | rfl | rfl | rfl <;> exact ⟨by decide, by decide, fun s hs => by cases hs <;> rfl⟩
theorem flush {tk nx vl : Nat → Nat} {n a r : Nat} (P : PG tk nx vl n) (ha : a ≤ n) (t : lvT (tk a) ≤ r) (h : List Nat) (x : Nat) (o : List Nat) : kF tk nx vl n a h x o = kF tk nx vl n a (uwH r h) (uwX r h x) (o ++ uwE r h) := by
  obtain ⟨t1, t2, t3⟩ := lv_tab (tk a) (P a ha).2.2.1
  by_cases q59 : tk a = 59
  · obtain ⟨h1, h2, h3⟩ := uw_cp (l := 1) (r := r) (by have := t2 (Or.inl q59); omega) h x
    rw [kF_59 P ha q59, kF_59 P ha q59, h1, List.append_assoc, h3]
  by_cases q41 : tk a = 41
  · obtain ⟨h1, h2, h3⟩ := uw_cp (l := 1) (r := r) (by have := t2 (Or.inr q41); omega) h x
    rw [kF_41 P ha q41, kF_41 P ha q41, h1, h2, List.append_assoc o, h3]
  cases hs : sgO (tk a) with
  | none => rw [kF_no P ha q59 q41 hs, kF_no P ha q59 q41 hs]
  | some s =>
    obtain ⟨h1, h2, h3⟩ := uw_cp (l := lvS s) (r := r) (by rw [t3 s hs]; exact t) h x
    rw [kF_sg P ha hs, kF_sg P ha hs, h1, h2, List.append_assoc o, h3]
theorem uwE_0 {r : Nat} : ∀ {h : List Nat}, uwE r h = [] → uwH r h = h ∧ ∀ x, uwX r h x = x
  | [], _ => ⟨rfl, fun _ => rfl⟩
  | s :: h, e => by
    by_cases q : rkS s < r
    · exact ⟨if_pos q, fun x => if_pos q⟩
    · rw [show uwE r (s :: h) = s :: uwE r h from if_neg q] at e
      cases e
theorem uwE_mn {l r : Nat} (hlr : l ≤ r) : ∀ {h : List Nat}, uwE l h = [] → uwE r h = []
  | [], _ => rfl
  | s :: h, e => by
    by_cases q : rkS s < l
    · exact if_pos (show rkS s < r by omega)
    · rw [show uwE l (s :: h) = s :: uwE l h from if_neg q] at e
      cases e
theorem uwE_hd {r s : Nat} {h : List Nat} (q : rkS s < r) : uwE r (s :: h) = [] := if_pos q
