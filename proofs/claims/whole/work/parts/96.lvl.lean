/-! L2: the two readers read the same: a level -/
def enc (l : List Op) : List Nat := l.map encO
theorem enc_a (l r : List Op) : enc (l ++ r) = enc l ++ enc r := List.map_append
/-- a part, from its first deed on -/
def W1 (l : List Op) : Prop := ∀ n r, wfp (n + 1) r → wfp n (l ++ r)
def W0 (l : List Op) : Prop := ∀ n r, wfp (n + 1) r → wfp (n + 1) (l ++ r)
theorem W1.n {v : Nat} (h : v < 10000) : W1 [(0, v)] := fun n r hr => ⟨⟨Nat.zero_le _, (fun _ => h), (fun q => absurd (show (0 : Nat) = 1 from q) (by decide))⟩, by rw [if_pos (Or.inl rfl)]; exact hr⟩
theorem W1.k {v : Nat} (h : v < 6) : W1 [(1, v)] := fun n r hr => ⟨⟨show 1 ≤ 10 by decide, (fun q => absurd (show (1 : Nat) = 0 from q) (by decide)), (fun _ => h)⟩, by rw [if_pos (Or.inr rfl)]; exact hr⟩
theorem W1.u {l : List Op} {o : Nat} (h : W1 l) (ho : o = 2 ∨ o = 3) : W1 (l ++ [(o, 0)]) := fun n r hr => by
  rw [List.append_assoc]
  refine h n ([(o, 0)] ++ r) ?_
  refine ⟨⟨by show o ≤ 10; omega, fun _ => by show 0 < _; omega, fun _ => by show 0 < _; omega⟩, ?_⟩
  rw [if_neg (show ¬ (o = 0 ∨ o = 1) by omega), if_pos ho]
  exact ⟨by omega, hr⟩
theorem W0.b {l : List Op} {o : Nat} (h : W1 l) (ho : 4 ≤ o ∧ o ≤ 10) : W0 (l ++ [(o, 0)]) := fun n r hr => by
  rw [List.append_assoc]
  refine h (n + 1) ([(o, 0)] ++ r) ?_
  refine ⟨⟨by show o ≤ 10; omega, fun _ => by show 0 < _; omega, fun _ => by show 0 < _; omega⟩, ?_⟩
  rw [if_neg (show ¬ (o = 0 ∨ o = 1) by omega), if_neg (show ¬ (o = 2 ∨ o = 3) by omega)]
  exact ⟨by omega, hr⟩
theorem W1.a {l r : List Op} (h : W1 l) (g : W0 r) : W1 (l ++ r) := fun n t ht => by
  rw [List.append_assoc]
  exact h n _ (g n t ht)
theorem W0.a {l r : List Op} (h : W0 l) (g : W0 r) : W0 (l ++ r) := fun n t ht => by
  rw [List.append_assoc]
  exact h n _ (g n t ht)
theorem W0.e : W0 [] := fun _ _ h => h
/-- the machine's next sign would be a second comparing -/
def bdT (bad : Bool) (t : Nat) : Prop := bad = true ∧ (t = 60 ∨ t = 61)
/-- what g reads from a on, and the machine (V): it goes on with h, x and E -/
def OT (tk nx vl : Nat → Nat) (n : Nat) (bad : Bool) (Q : Nat → Prop) (V : Bool × Nat × List Nat) (h : List Nat) (x : Nat) (E : List Op → List Nat) (W : List Op → Prop) (r : Rs) : Prop := r.2.1 ≤ n ∧ (r.1 = false → V = (false, r.2.1, [])) ∧ (r.1 = true → W r.2.2 ∧ (bdT bad (tk r.2.1) → V = (false, r.2.1, [])) ∧ (¬ bdT bad (tk r.2.1) → Q (tk r.2.1) ∧ V = kF tk nx vl n r.2.1 h x (E r.2.2)))
def GK (tk nx vl : Nat → Nat) (n l : Nat) (bad : Bool) (C : Bool → Nat → Prop) (Q : Nat → Prop) (x : Nat) (g : Nat → Rs) : Prop := ∀ (a : Nat) (m : Bool) (h : List Nat) (e : List Nat), a ≤ n → C m (tk a) → uwE l h = [] → x = cO h → x ≤ 5 → OT tk nx vl n bad Q (kk tk nx vl n true m a h x e) h x (fun o => e ++ enc o) W1 (g a) ∧ ((g a).1 = true → a < (g a).2.1)
theorem loop_k {tk nx vl : Nat → Nat} {n l x : Nat} {bad : Bool} {C : Bool → Nat → Prop} {Q : Nat → Prop} {g : Nat → Rs} {oo : Nat → Option Nat} (P : PG tk nx vl n) (hoo : ∀ t o, oo t = some o → ∃ s, sgO t = some s ∧ encO (o, 0) = s ∧ lvS s = l ∧ rkS s = l ∧ isP s = 0 ∧ l ≠ 4 ∧ (4 ≤ o ∧ o ≤ 10) ∧ ¬ (t = 60 ∨ t = 61) ∧ ∀ u, C (decide (s ≤ 12)) u) (hQ : ∀ t, Q t → lvT t ≤ l) (hg : GK tk nx vl n (l + 1) bad C Q x g) : ∀ (f a : Nat) (V : Bool × Nat × List Nat) (h : List Nat) (e : List Nat), a ≤ n → n - a < f → uwE l h = [] → x = cO h → x ≤ 5 → (bdT bad (tk a) → V = (false, a, [])) → (¬ bdT bad (tk a) → Q (tk a) ∧ V = kF tk nx vl n a h x e) →
    OT tk nx vl n bad (fun t => Q t ∧ oo t = none) V h x (fun o => e ++ enc o) W0 (dLoop tk nx oo g f a) ∧ ((dLoop tk nx oo g f a).1 = true → a ≤ (dLoop tk nx oo g f a).2.1) := by
  intro f
  induction f with
  | zero => intro a V h e _ hf; omega
  | succ f ih =>
    intro a V h e ha hf hu hx hx5 hbd hok
    obtain ⟨p1, p2, -⟩ := P a ha
    cases ho : oo (tk a) with
    | none =>
      have er : dLoop tk nx oo g (f + 1) a = (true, a, []) := by
        show (match oo (tk a) with
          | none => (true, a, [])
          | some o => bindR (tailR (g (nx a)) o) (dLoop tk nx oo g f)) = _
        rw [ho]
      rw [er]
      refine ⟨⟨ha, fun z => (by cases z), fun _ => ⟨W0.e, hbd, fun z => ⟨⟨(hok z).1, ho⟩, ?_⟩⟩⟩, fun _ => Nat.le_refl _⟩
      rw [(hok z).2]
      show _ = kF tk nx vl n a h x (e ++ [])
      rw [List.append_nil]
    | some o =>
      obtain ⟨s, s1, s2, s3, s4, s5, s6, s7, s8, s9⟩ := hoo _ _ ho
      have er : dLoop tk nx oo g (f + 1) a = bindR (tailR (g (nx a)) o) (dLoop tk nx oo g f) := by
        show (match oo (tk a) with
          | none => (true, a, [])
          | some o => bindR (tailR (g (nx a)) o) (dLoop tk nx oo g f)) = _
        rw [ho]
      rw [er]
      have p2' := p2 (sgO_s s1).2
      obtain ⟨u1, u2⟩ := uwE_0 hu
      have hV := (hok (fun z => s8 z.2)).2
      rw [kF_sg P ha s1, if_neg (fun z => s6 (s4.symm.trans z.1)), s3, u1, u2, hu, List.append_nil] at hV
      obtain ⟨⟨g1, g2, g3⟩, g4⟩ := hg (nx a) (decide (s ≤ 12)) (s :: h) e p1 (s9 _) (uwE_hd (by omega)) (by show x = isP s + cO h; omega) hx5
      unfold bindR tailR
      cases hr : (g (nx a)).1 with
      | false =>
        rw [if_neg Bool.false_ne_true, if_neg Bool.false_ne_true]
        exact ⟨⟨g1, fun _ => hV.trans (g2 hr), fun z => (by cases z)⟩, fun z => (by cases z)⟩
      | true =>
        obtain ⟨g5, g6, g7⟩ := g3 hr
        have g4' := g4 hr
        rw [if_pos rfl, if_pos rfl]
        dsimp only
        obtain ⟨⟨j1, j2, j3⟩, j4⟩ := ih (g (nx a)).2.1 V h (e ++ enc ((g (nx a)).2.2 ++ [(o, 0)])) g1 (by omega) hu hx hx5 (fun z => hV.trans (g6 z)) (fun z => ⟨(g7 z).1, by
          rw [hV, (g7 z).2, flush P g1 (hQ _ (g7 z).1), show uwH l (s :: h) = uwH l h from if_neg (by omega), show uwX l (s :: h) x = uwX l h (x - isO s) from if_neg (by omega), show uwE l (s :: h) = s :: uwE l h from if_neg (by omega), show isO s = 0 from (isO_P (l := l) (by
            have := lv_tab (tk a) (P a ha).2.2.1
            have hs := (sgO_s s1).1
            have := (lvS_1 hs).1
            omega) (by omega)).trans s5, u1, hu, Nat.sub_zero, u2, enc_a]
          show kF tk nx vl n _ h x (e ++ enc (g (nx a)).2.2 ++ [s]) = kF tk nx vl n _ h x (e ++ (enc (g (nx a)).2.2 ++ [encO (o, 0)]))
          rw [s2, List.append_assoc]⟩)
        refine ⟨⟨j1, fun z => j2 z, fun z => ?_⟩, fun z => ?_⟩
        · obtain ⟨k1, k2, k3⟩ := j3 z
          refine ⟨(W0.b g5 s7).a k1, k2, fun y => ⟨(k3 y).1, ?_⟩⟩
          rw [(k3 y).2]
          dsimp only
          rw [enc_a _ (dLoop tk nx oo g f (g (nx a)).2.1).2.2, List.append_assoc]
        · have := j4 z
          omega
theorem lvl_k {tk nx vl : Nat → Nat} {n l x : Nat} {bad : Bool} {C : Bool → Nat → Prop} {Q : Nat → Prop} {g : Nat → Rs} {oo : Nat → Option Nat} (hn : n ≤ 160) (P : PG tk nx vl n) (hoo : ∀ t o, oo t = some o → ∃ s, sgO t = some s ∧ encO (o, 0) = s ∧ lvS s = l ∧ rkS s = l ∧ isP s = 0 ∧ l ≠ 4 ∧ (4 ≤ o ∧ o ≤ 10) ∧ ¬ (t = 60 ∨ t = 61) ∧ ∀ u, C (decide (s ≤ 12)) u) (hQ : ∀ t, Q t → lvT t ≤ l) (hg : GK tk nx vl n (l + 1) bad C Q x g) : GK tk nx vl n l bad C (fun t => Q t ∧ oo t = none) x (dLvl tk nx oo g) := by
  intro a m h e ha hC hu hx hx5
  obtain ⟨⟨g1, g2, g3⟩, g4⟩ := hg a m h e ha hC (uwE_mn (Nat.le_succ l) hu) hx hx5
  unfold dLvl bindR
  cases hr : (g a).1 with
  | false =>
    rw [if_neg Bool.false_ne_true]
    exact ⟨⟨g1, fun _ => g2 hr, fun z => (by cases z)⟩, fun z => (by cases z)⟩
  | true =>
    obtain ⟨g5, g6, g7⟩ := g3 hr
    have g4' := g4 hr
    rw [if_pos rfl]
    obtain ⟨⟨j1, j2, j3⟩, j4⟩ := loop_k P hoo hQ hg 160 (g a).2.1 (kk tk nx vl n true m a h x e) h (e ++ enc (g a).2.2) g1 (by omega) hu hx hx5 g6 g7
    refine ⟨⟨j1, fun z => j2 z, fun z => ?_⟩, fun z => ?_⟩
    · obtain ⟨k1, k2, k3⟩ := j3 z
      refine ⟨W1.a g5 k1, k2, fun y => ⟨(k3 y).1, ?_⟩⟩
      rw [(k3 y).2]
      dsimp only
      rw [enc_a, List.append_assoc]
    · have := j4 z
      show a < (dLoop tk nx oo g 160 (g a).2.1).2.1
      omega
