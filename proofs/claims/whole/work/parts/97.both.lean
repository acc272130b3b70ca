/-! L2: the two readers read the same: all levels -/
def Cl (m : Bool) (t : Nat) : Prop := t ≠ 205 ∨ m = false
def Ch (m : Bool) (_ : Nat) : Prop := m = true
def Q1 (_ : Nat) : Prop := True
def QN (t : Nat) : Prop := lvT t ≤ 2
def QE (t : Nat) : Prop := (QN t ∧ oB t = none) ∧ oE t = none
def QS (t : Nat) : Prop := (Q1 t ∧ oT t = none) ∧ oS t = none
/-- one: whatever is held -/
def GO (tk nx vl : Nat → Nat) (n x : Nat) (g : Nat → Rs) : Prop := ∀ (a : Nat) (m : Bool) (h : List Nat) (e : List Nat), a ≤ n → Cl m (tk a) → x = cO h → x ≤ 5 → OT tk nx vl n false Q1 (kk tk nx vl n true m a h x e) (uwH 7 h) (uwX 7 h x) (fun o => e ++ (enc o ++ uwE 7 h)) W1 (g a) ∧ ((g a).1 = true → a < (g a).2.1)
/-- one not -/
def GN (tk nx vl : Nat → Nat) (n x : Nat) (g : Nat → Rs) : Prop := ∀ (a : Nat) (h : List Nat) (e : List Nat), a ≤ n → uwE 4 h = [] → x = cO h → x ≤ 5 → OT tk nx vl n true QN (kk tk nx vl n true true a h x e) (uwH 3 h) (uwX 3 h x) (fun o => e ++ (enc o ++ uwE 3 h)) W1 (g a) ∧ ((g a).1 = true → a < (g a).2.1)
theorem nbd (t : Nat) : ¬ bdT false t := fun z => Bool.false_ne_true z.1
theorem okT_ls {t : Nat} (h : okT t) : t = 40 ∨ t = 41 ∨ t = 42 ∨ t = 43 ∨ t = 45 ∨ t = 59 ∨ t = 60 ∨ t = 61 ∨ t = 200 ∨ t = 201 ∨ t = 202 ∨ t = 203 ∨ t = 204 ∨ t = 205 ∨ t = 300 ∨ t = 301 ∨ t = 302 ∨ t = 303 := h
theorem uwE_c {r s : Nat} {h : List Nat} (q : ¬ rkS s < r) : uwE r (s :: h) = s :: uwE r h := if_neg q
theorem uwH_c {r s : Nat} {h : List Nat} (q : ¬ rkS s < r) : uwH r (s :: h) = uwH r h := if_neg q
theorem uwX_c {r s x : Nat} {h : List Nat} (q : ¬ rkS s < r) : uwX r (s :: h) x = uwX r h (x - isO s) := if_neg q
theorem oneK {tk nx vl : Nat → Nat} {n x : Nat} {Rk : Nat → Nat → Nat → Rs} (P : PG tk nx vl n) (h2 : x < 5 → GO tk nx vl n (x + 1) (Rk 2 (x + 1))) (h0 : x < 5 → GK tk nx vl n 1 true Ch QE (x + 1) (Rk 0 (x + 1))) : GO tk nx vl n x (dOne tk nx vl Rk x) := by
  intro a m h e ha hC hx hx5
  obtain ⟨p1, p2, p3, p4, p5⟩ := P a ha
  unfold dOne
  by_cases t0 : tk a = 300
  · rw [if_pos t0, kk_300 P ha t0]
    refine ⟨⟨p1, fun z => (by cases z), fun _ => ⟨W1.n (p4 t0), fun z => absurd z (nbd _), fun _ => ⟨trivial, rfl⟩⟩⟩, fun _ => p2 (by omega)⟩
  rw [if_neg t0]
  by_cases t1 : tk a = 301
  · rw [if_pos t1, kk_301 P ha t1]
    refine ⟨⟨p1, fun z => (by cases z), fun _ => ⟨W1.k (p5 t1), fun z => absurd z (nbd _), fun _ => ⟨trivial, rfl⟩⟩⟩, fun _ => p2 (by omega)⟩
  rw [if_neg t1]
  by_cases t2 : tk a = 45
  · rw [if_pos t2, kk_45 P ha t2]
    by_cases q : x < 5
    · rw [if_pos q, if_neg (show ¬ x = 5 by omega)]
      obtain ⟨⟨g1, g2, g3⟩, g4⟩ := h2 q (nx a) false (19 :: h) e p1 (Or.inr rfl) (by show x + 1 = 1 + cO h; omega) (by omega)
      have hap := p2 (by omega)
      unfold tailR
      cases hr : (Rk 2 (x + 1) (nx a)).1 with
      | false =>
        rw [if_neg Bool.false_ne_true]
        exact ⟨⟨g1, fun _ => g2 hr, fun z => (by cases z)⟩, fun z => (by cases z)⟩
      | true =>
        obtain ⟨g5, g6, g7⟩ := g3 hr
        have g4' := g4 hr
        rw [if_pos rfl]
        refine ⟨⟨g1, fun z => (by cases z), fun _ => ⟨g5.u (Or.inl rfl), fun z => absurd z (nbd _), fun _ => ⟨trivial, ?_⟩⟩⟩, fun _ => Nat.lt_trans hap g4'⟩
        rw [(g7 (nbd _)).2, uwH_c (show ¬ rkS 19 < 7 by decide), uwX_c (show ¬ rkS 19 < 7 by decide), uwE_c (show ¬ rkS 19 < 7 by decide), show x + 1 - isO 19 = x from rfl]
        dsimp only
        rw [enc_a, List.append_assoc (enc (Rk 2 (x + 1) (nx a)).2.2)]
        rfl
    · rw [if_neg q, if_pos (show x = 5 by omega)]
      exact ⟨⟨ha, fun _ => rfl, fun z => (by cases z)⟩, fun z => (by cases z)⟩
  rw [if_neg t2]
  by_cases t3 : tk a = 40
  · rw [if_pos t3, kk_40 P ha t3]
    by_cases q : x < 5
    · rw [if_pos q, if_neg (show ¬ x = 5 by omega)]
      obtain ⟨⟨g1, g2, g3⟩, g4⟩ := h0 q (nx a) true (0 :: h) e p1 rfl (uwE_hd (by decide)) (by show x + 1 = 1 + cO h; omega) (by omega)
      have hap := p2 (by omega)
      unfold bindR
      cases hr : (Rk 0 (x + 1) (nx a)).1 with
      | false =>
        rw [if_neg Bool.false_ne_true]
        exact ⟨⟨g1, fun _ => g2 hr, fun z => (by cases z)⟩, fun z => (by cases z)⟩
      | true =>
        obtain ⟨g5, g6, g7⟩ := g3 hr
        have g4' := g4 hr
        rw [if_pos rfl]
        generalize hp : (Rk 0 (x + 1) (nx a)).2.1 = p at g1 g2 g4' g6 g7 ⊢
        generalize (Rk 0 (x + 1) (nx a)).2.2 = ops at g5 g7 ⊢
        obtain ⟨r1, r2, r3, -⟩ := P p g1
        by_cases t4 : tk p = 41
        · simp only [if_pos t4]
          refine ⟨⟨r1, fun z => (by cases z), fun _ => ⟨by rw [List.append_nil]; exact g5, fun z => absurd z (nbd _), fun _ => ⟨trivial, ?_⟩⟩⟩, fun _ => ?_⟩
          · rw [(g7 (fun z => by have := z.2; omega)).2, kF_41 P g1 t4, show uwH 1 (0 :: h) = 0 :: h from rfl, show uwX 1 (0 :: h) (x + 1) = x + 1 from rfl, show uwE 1 (0 :: h) = [] from rfl, List.append_nil, List.append_nil]
            show kF tk nx vl n (nx p) (uwH 7 h) (uwX 7 h x) (e ++ enc ops ++ uwE 7 h) = kF tk nx vl n (nx p) (uwH 7 h) (uwX 7 h x) (e ++ (enc ops ++ uwE 7 h))
            rw [List.append_assoc]
          · have := r2 (by omega)
            show a < nx p
            omega
        · simp only [if_neg t4]
          refine ⟨⟨g1, fun _ => ?_, fun z => (by cases z)⟩, fun z => (by cases z)⟩
          by_cases q2 : bdT true (tk p)
          · exact g6 q2
          · obtain ⟨q3, q4⟩ := g7 q2
            rw [q4]
            by_cases t5 : tk p = 59
            · rw [kF_59 P g1 t5, show uwH 1 (0 :: h) = 0 :: h from rfl, if_neg (fun z => by cases z)]
            · refine kF_no P g1 t5 t4 ?_ _ _ _
              have := okT_ls r3
              unfold QE QN oB oE lvT at q3
              unfold bdT at q2
              generalize tk p = t at t4 t5 this q2 q3 ⊢
              rcases this with rfl | rfl | rfl | rfl | rfl | rfl | rfl | rfl | rfl | rfl | rfl | rfl | rfl | rfl | rfl | rfl | rfl | rfl <;> first | rfl | (exfalso; revert q2 q3; decide) | (exfalso; omega)
    · rw [if_neg q, if_pos (show x = 5 by omega)]
      exact ⟨⟨ha, fun _ => rfl, fun z => (by cases z)⟩, fun z => (by cases z)⟩
  · rw [if_neg t3, kk_no P ha t0 t1 hC t2 t3]
    exact ⟨⟨ha, fun _ => rfl, fun z => (by cases z)⟩, fun z => (by cases z)⟩
theorem GO.gk {tk nx vl : Nat → Nat} {n x : Nat} {g : Nat → Rs} (hg : GO tk nx vl n x g) : GK tk nx vl n 7 false Cl Q1 x g := by
  intro a m h e ha hC hu hx hx5
  obtain ⟨⟨g1, g2, g3⟩, g4⟩ := hg a m h e ha hC hx hx5
  obtain ⟨u1, u2⟩ := uwE_0 hu
  refine ⟨⟨g1, g2, fun z => ?_⟩, g4⟩
  obtain ⟨g5, g6, g7⟩ := g3 z
  refine ⟨g5, g6, fun y => ⟨trivial, ?_⟩⟩
  rw [(g7 y).2, u1, u2, hu]
  dsimp only
  rw [List.append_nil]
theorem termK {tk nx vl : Nat → Nat} {n x : Nat} {Rk : Nat → Nat → Nat → Rs} (hn : n ≤ 160) (P : PG tk nx vl n) (h : GO tk nx vl n x (dOne tk nx vl Rk x)) : GK tk nx vl n 6 false Cl (fun t => Q1 t ∧ oT t = none) x (dTerm tk nx vl Rk x) := by
  refine lvl_k (Q := Q1) hn P (fun t o ho => ?_) (fun t _ => ?_) h.gk
  · unfold oT at ho
    by_cases q : t = 42
    · subst q
      cases ho
      exact ⟨18, rfl, rfl, rfl, rfl, rfl, by decide, by decide, by decide, fun u => Or.inr rfl⟩
    · rw [if_neg q] at ho
      cases ho
  · unfold lvT
    (repeat' split) <;> omega
theorem sumK {tk nx vl : Nat → Nat} {n x : Nat} {Rk : Nat → Nat → Nat → Rs} (hn : n ≤ 160) (P : PG tk nx vl n) (h : GO tk nx vl n x (dOne tk nx vl Rk x)) : GK tk nx vl n 5 false Cl QS x (dSum tk nx vl Rk x) := by
  refine lvl_k (Q := fun t => Q1 t ∧ oT t = none) hn P (fun t o ho => ?_) (fun t ht => ?_) (termK hn P h)
  · unfold oS at ho
    by_cases q : t = 43
    · subst q
      cases ho
      exact ⟨16, rfl, rfl, rfl, rfl, rfl, by decide, by decide, by decide, fun u => Or.inr rfl⟩
    · rw [if_neg q] at ho
      by_cases q2 : t = 45
      · subst q2
        cases ho
        exact ⟨17, rfl, rfl, rfl, rfl, rfl, by decide, by decide, by decide, fun u => Or.inr rfl⟩
      · rw [if_neg q2] at ho
        cases ho
  · have h2 := ht.2
    unfold oT at h2
    unfold lvT
    by_cases q : t = 42
    · rw [if_pos q] at h2
      cases h2
    · rw [if_neg q]
      (repeat' split) <;> omega
theorem qs_n {t : Nat} (h : QS t) (h2 : ¬ (t = 60 ∨ t = 61)) : QN t := by
  unfold QS Q1 oT oS at h
  unfold QN lvT
  by_cases q : t = 42
  · rw [if_pos q] at h
    cases h.1.2
  by_cases q1 : t = 43
  · rw [if_pos q1] at h
    cases h.2
  by_cases q2 : t = 45
  · rw [if_neg q1, if_pos q2] at h
    cases h.2
  rw [if_neg q]
  (repeat' split) <;> omega
theorem cmpK {tk nx vl : Nat → Nat} {n x : Nat} {Rk : Nat → Nat → Nat → Rs} (hn : n ≤ 160) (P : PG tk nx vl n) (ho : GO tk nx vl n x (dOne tk nx vl Rk x)) : GK tk nx vl n 4 true Cl QN x (dCmp tk nx vl Rk x) := by
  intro a m h e ha hC hu hx hx5
  have hS := sumK hn P ho
  obtain ⟨⟨g1, g2, g3⟩, g4⟩ := hS a m h e ha hC (uwE_mn (by decide) hu) hx hx5
  unfold dCmp bindR
  cases hr : (dSum tk nx vl Rk x a).1 with
  | false =>
    rw [if_neg Bool.false_ne_true]
    exact ⟨⟨g1, fun _ => g2 hr, fun z => (by cases z)⟩, fun z => (by cases z)⟩
  | true =>
    obtain ⟨g5, -, g7⟩ := g3 hr
    obtain ⟨g7, g8⟩ := g7 (nbd _)
    have g4' := g4 hr
    rw [if_pos rfl]
    generalize (dSum tk nx vl Rk x a).2.1 = p at g1 g2 g4' g7 g8 ⊢
    generalize (dSum tk nx vl Rk x a).2.2 = ops at g5 g8 ⊢
    obtain ⟨r1, r2, r3, -⟩ := P p g1
    have right : ∀ s o : Nat, sgO (tk p) = some s → rkS s = 4 → isP s = 0 → decide (s ≤ 12) = false → encO (o, 0) = s → (4 ≤ o ∧ o ≤ 10) → tk p ≠ 302 →
        OT tk nx vl n true QN (kk tk nx vl n true m a h x e) h x (fun o => e ++ enc o) W1 ((tailR (dSum tk nx vl Rk x (nx p)) o).1, (tailR (dSum tk nx vl Rk x (nx p)) o).2.1, ops ++ (tailR (dSum tk nx vl Rk x (nx p)) o).2.2) ∧ ((tailR (dSum tk nx vl Rk x (nx p)) o).1 = true → a < (tailR (dSum tk nx vl Rk x (nx p)) o).2.1) := by
      intro s o s1 s2 s3 s4 s5 s6 s7
      have l5 : lvS s = 5 := if_pos s2
      obtain ⟨u1, u2⟩ := uwE_0 (uwE_mn (r := 5) (by decide) hu)
      obtain ⟨v1, v2⟩ := uwE_0 hu
      have hh : hdR h ≠ 4 := by
        cases h with
        | nil => decide
        | cons y h =>
          intro z
          rw [show uwE 4 (y :: h) = y :: uwE 4 h from if_neg (by have : rkS y = 4 := z; omega)] at hu
          cases hu
      have hV : kk tk nx vl n true m a h x e = kk tk nx vl n true false (nx p) (s :: h) x (e ++ enc ops) := by
        rw [g8, kF_sg P g1 s1, l5, u1, if_neg (fun z => hh z.2), u2, uwE_mn (r := 5) (by decide) hu, s4, List.append_nil]
      have p9 := r2 s7
      obtain ⟨⟨j1, j2, j3⟩, j4⟩ := hS (nx p) false (s :: h) (e ++ enc ops) r1 (Or.inr rfl) (uwE_hd (by omega)) (by show x = isP s + cO h; omega) hx5
      rw [hV]
      unfold tailR
      cases hr2 : (dSum tk nx vl Rk x (nx p)).1 with
      | false =>
        rw [if_neg Bool.false_ne_true]
        exact ⟨⟨j1, fun _ => j2 hr2, fun z => (by cases z)⟩, fun z => (by cases z)⟩
      | true =>
        obtain ⟨j5, -, j7⟩ := j3 hr2
        obtain ⟨j7, j8⟩ := j7 (nbd _)
        have j4' := j4 hr2
        rw [if_pos rfl]
        generalize (dSum tk nx vl Rk x (nx p)).2.1 = p2 at j1 j2 j4' j7 j8 ⊢
        generalize (dSum tk nx vl Rk x (nx p)).2.2 = op2 at j5 j8 ⊢
        refine ⟨⟨j1, fun z => (by cases z), fun _ => ⟨g5.a (W0.b j5 s6), fun z => ?_, fun z => ?_⟩⟩, fun _ => by show a < p2; omega⟩
        · rw [j8]
          have hs : ∃ s', sgO (tk p2) = some s' ∧ rkS s' = 4 := by
            rcases z.2 with q | q
            · exact ⟨14, by rw [q]; rfl, rfl⟩
            · exact ⟨15, by rw [q]; rfl, rfl⟩
          obtain ⟨s', z1, z2⟩ := hs
          rw [kF_sg P j1 z1, show lvS s' = 5 from if_pos z2, show uwH 5 (s :: h) = s :: h from if_pos (by omega), if_pos ⟨z2, s2⟩]
        · have z2 := qs_n j7 (fun y => z ⟨rfl, y⟩)
          refine ⟨z2, ?_⟩
          have z3 : lvT (tk p2) ≤ 4 := Nat.le_trans z2 (by decide)
          rw [j8, flush P j1 z3, uwH_c (show ¬ rkS s < 4 by omega), uwX_c (show ¬ rkS s < 4 by omega), uwE_c (show ¬ rkS s < 4 by omega), v1, v2, hu, show isO s = 0 from (isO_P (l := 4) (by decide) (by omega)).trans s3, Nat.sub_zero]
          dsimp only
          rw [enc_a, enc_a, show enc [(o, 0)] = [s] from by rw [← s5]; rfl]
          simp only [List.append_assoc]
    by_cases t1 : tk p = 60
    · simp only [if_pos t1]
      exact right 14 7 (by rw [t1]; rfl) rfl rfl rfl rfl (by decide) (by omega)
    · by_cases t2 : tk p = 61
      · simp only [if_neg t1, if_pos t2]
        exact right 15 8 (by rw [t2]; rfl) rfl rfl rfl rfl (by decide) (by omega)
      · simp only [if_neg t1, if_neg t2]
        have nb : ¬ (tk p = 60 ∨ tk p = 61) := fun z => z.elim t1 t2
        refine ⟨⟨g1, fun z => (by cases z), fun _ => ⟨by rw [List.append_nil]; exact g5, fun z => absurd z.2 nb, fun _ => ⟨qs_n g7 nb, ?_⟩⟩⟩, fun _ => g4'⟩
        rw [g8, List.append_nil]
