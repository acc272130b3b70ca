/-! L2: what the texts say: class -/
abbrev Sl : Type := Nat × Nat × Nat × Nat × Nat × Nat × Nat × List Nat
def kK (σ : Sl) : Nat := σ.1
def kM (σ : Sl) : Nat := σ.2.1
def kC (σ : Sl) : Nat := σ.2.2.1
def kW (σ : Sl) : Nat := σ.2.2.2.1
def kN (σ : Sl) : Nat := σ.2.2.2.2.1
def kT (σ : Sl) : Nat := σ.2.2.2.2.2.1
def kL (σ : Sl) : Nat := σ.2.2.2.2.2.2.1
def kS (σ : Sl) : List Nat := σ.2.2.2.2.2.2.2
def nmv (σ : Sl) (w : Nat) : Nat := if w = 0 then kN σ else if w = 1 then kC σ % 8 else if w = 2 then kC σ / 8 else if w = 3 then kT σ else if w = 4 then kL σ else kM σ
def nm (σ : Sl) (w : Nat) : Int32 := nI (nmv σ w)
def RS (M : Mem) (a : Nat) (σ : Sl) : Prop := FI M a 0 = nI (kK σ) ∧ FI M a 1 = nI (kM σ) ∧ FI M a 2 = nI (kC σ) ∧ FI M a 3 = nI (kW σ) ∧ FI M a 4 = nI (kN σ) ∧ FI M a 5 = nI (kT σ) ∧ FI M a 6 = nI (kL σ) ∧ FI M a 7 = nI (kS σ).length ∧ ∀ k, k < (kS σ).length → AI M (a + 19) k = nI ((kS σ).getD k 0)
def wfS (σ : Sl) : Prop := kK σ < 6 ∧ kM σ < 10 ∧ kC σ < 64 ∧ kW σ < 4 ∧ kN σ < (kS σ).length ∧ kT σ ≤ 99 ∧ kL σ ≤ 99 ∧ (kS σ).length ≤ 16 ∧ ∀ k, k < (kS σ).length → (kS σ).getD k 0 < 5
theorem within_c {p : Nat} (hp : p < 3) (v : Int32) (M : Mem) : f_X3_within (nI p) v M = some (bnd p v) := by
  have e : p = 0 ∨ p = 1 ∨ p = 2 := by omega
  unfold f_X3_within b_X3_within_0 b_X3_within_11 b_X3_within_23 bnd
  rcases e with rfl | rfl | rfl
  · rw [if_neg (show ¬ nI 0 = 1 from by decide), if_pos (show nI 0 = 0 from by decide), mm_eq (by decide), if_pos rfl]
  · rw [if_pos (show nI 1 = 1 from by decide), if_neg (show ¬ nI 1 = 0 from by decide), mm_eq (by decide)]; rfl
  · rw [if_neg (show ¬ nI 2 = 1 from by decide), if_neg (show ¬ nI 2 = 0 from by decide), mm_eq (by decide)]; rfl
theorem named_c {M : Mem} {a w : Nat} {σ : Sl} (hS : RS M a σ) (hw : wfS σ) (h : w < 6) : f_X2_named a (nI w) M = some (nm σ w) := by
  obtain ⟨r0, r1, r2, r3, r4, r5, r6, r7, r8⟩ := hS
  obtain ⟨w0, w1, w2, w3, w4, w5, w6, w7, w8⟩ := hw
  have e : w = 0 ∨ w = 1 ∨ w = 2 ∨ w = 3 ∨ w = 4 ∨ w = 5 := by omega
  unfold f_X2_named b_X2_named_0 nm nmv
  rcases e with rfl | rfl | rfl | rfl | rfl | rfl
  · simp (decide := true) only [if_true, if_false, reduceIte]; rw [r4]
  · simp (decide := true) only [if_true, if_false, reduceIte]; rw [r2, show (8 : Int32) = nI 8 from rfl, remI (by omega) (by decide) (by decide)]
  · simp (decide := true) only [if_true, if_false, reduceIte]; rw [r2, show (8 : Int32) = nI 8 from rfl, pk_div (by omega) (by decide) (by decide)]
  · simp (decide := true) only [if_true, if_false, reduceIte]; rw [r5]
  · simp (decide := true) only [if_true, if_false, reduceIte]; rw [r6]
  · simp (decide := true) only [if_true, if_false, reduceIte]; rw [r1]
theorem ofOne_c {d : Nat} (h : d = 2 ∨ d = 3) (v : Int32) (M : Mem) : f_X3_ofOne (nI d) v M = some (one1 d v) := by
  unfold f_X3_ofOne b_X3_ofOne_0 one1
  rcases h with rfl | rfl
  · simp (decide := true) only [if_true, if_false, reduceIte]
  · simp (decide := true) only [if_true, if_false, reduceIte]
    split <;> rfl
theorem ofTwo_c {d : Nat} (h : 4 ≤ d) (h2 : d ≤ 10) (x y : Int32) (M : Mem) : f_X3_ofTwo (nI d) x y M = some (two2 d x y) := by
  have e : d = 4 ∨ d = 5 ∨ d = 6 ∨ d = 7 ∨ d = 8 ∨ d = 9 ∨ d = 10 := by omega
  unfold f_X3_ofTwo b_X3_ofTwo_0 two2
  rcases e with rfl | rfl | rfl | rfl | rfl | rfl | rfl
  · simp (decide := true) only [if_true, if_false, reduceIte]
  · simp (decide := true) only [if_true, if_false, reduceIte]
  · simp (decide := true) only [if_true, if_false, reduceIte]
  · simp (decide := true) only [if_true, if_false, reduceIte]
    by_cases q : x < y
    · rw [if_pos q, if_neg (lt_nle q)]
    · rw [if_neg q, if_pos (nlt_le q)]
  · simp (decide := true) only [if_true, if_false, reduceIte]
    split <;> rfl
  · simp (decide := true) only [if_true, if_false, reduceIte]
    by_cases q : x = 0 <;> by_cases q2 : y = 0 <;> simp [q, q2]
  · simp (decide := true) only [if_true, if_false, reduceIte]
    by_cases q : x = 0 <;> by_cases q2 : y = 0 <;> simp [q, q2]
theorem rev_top {st : List Int32} {v : Int32} {g : Nat → Int32} (h : ∀ q, q < st.length → g q = st.reverse.getD q 0) : ∀ q, q < (v :: st).length → upd g st.length v q = (v :: st).reverse.getD q 0 := by
  intro q hq
  simp only [List.length_cons] at hq
  unfold upd
  rw [List.reverse_cons, List.getD_eq_getElem?_getD]
  by_cases e : q = st.length
  · subst e
    rw [if_pos rfl, List.getElem?_append_right (by simp)]
    simp
  · have hq2 : q < st.length := by omega
    rw [if_neg e, h q hq2, List.getElem?_append_left (by simpa using hq2), List.getD_eq_getElem?_getD]
theorem says_loop_c {N t p j e : Nat} {σ : Sl} {M0 : Mem} (hp : p < 3) (ht : kd t = 3) (hj : kd j = 2) (hS : RS M0 j σ) (hw : wfS σ) (he : e ≤ 160) :
    ∀ (rest : List Op) (fu i : Nat) (st : List Int32) (g : Nat → Int32), rest.length < fu → i + rest.length = e → st.length + rest.length ≤ 160 → (∀ k, k < rest.length → AI M0 (t + 6) (i + k) = nI (rest.getD k (0, 0)).1 ∧ AI M0 (t + 12) (i + k) = nI (rest.getD k (0, 0)).2) → (∀ q, q < st.length → g q = st.reverse.getD q 0) → wfp st.length rest →
      ∃ g', b_X3_says_49 N t (nI p) j fu (nI e) (nI st.length) (nI i) (rAI M0 70 g) = some (bnd p ((evL (nm σ) rest st).getD 0 0), rAI M0 70 g') := by
  obtain ⟨t1, t2⟩ := kd3 ht
  obtain ⟨j1, j2⟩ := kd2 hj
  intro rest
  induction rest with
  | nil =>
    intro fu i st g hf hi hlen hd hg hwf
    obtain ⟨fu, rfl⟩ : ∃ z, fu = z + 1 := ⟨fu - 1, by simp at hf; omega⟩
    simp only [List.length_nil, Nat.add_zero] at hi
    have h1 : st.length = 1 := hwf
    obtain ⟨v, rfl⟩ := List.length_eq_one_iff.mp h1
    refine ⟨g, ?_⟩
    rw [b_X3_says_49, if_pos (nI_le (by omega) (by omega)), if_neg (show ¬ nI [v].length ≤ 0 from (by decide : ¬ nI 1 ≤ 0))]
    unfold b_X3_says_231
    rw [within_c hp, bind_some_, AI_rAI_s, show (0 : Int32).toNatClampNeg = 0 from rfl, hg 0 (by simp)]
    rfl
  | cons o rest ih =>
    intro fu i st g hf hi hlen hd hg hwf
    obtain ⟨fu, rfl⟩ : ∃ z, fu = z + 1 := ⟨fu - 1, by omega⟩
    simp only [List.length_cons] at hi hlen hf
    obtain ⟨d1, d2⟩ := hd 0 (by simp)
    simp only [Nat.add_zero, List.getD_cons_zero] at d1 d2
    obtain ⟨⟨o1, o2, o3⟩, hrest⟩ := hwf
    have hd' : ∀ k, k < rest.length → AI M0 (t + 6) (i + 1 + k) = nI (rest.getD k (0, 0)).1 ∧ AI M0 (t + 12) (i + 1 + k) = nI (rest.getD k (0, 0)).2 := by
      intro k hk
      have := hd (k + 1) (by simp; omega)
      rw [List.getD_cons_succ, show i + (k + 1) = i + 1 + k from by omega] at this
      exact this
    have eA : ∀ gg, AI (rAI M0 70 gg) (t + 6) = AI M0 (t + 6) := fun gg => AI_rAI_n _ _ (by omega)
    have eB : ∀ gg, AI (rAI M0 70 gg) (t + 12) = AI M0 (t + 12) := fun gg => AI_rAI_n _ _ (by omega)
    have ei : (nI i).toNatClampNeg = i := nI_clamp (by omega)
    have es : (nI st.length).toNatClampNeg = st.length := nI_clamp (by omega)
    rw [b_X3_says_49, if_neg (nI_ge (by omega) (by omega)), gd_t (by rw [n_3_0 ht]; exact inb_nI (by omega) (by omega)), eA, ei, d1]
    have next : ∀ (st' : List Int32) (g' : Nat → Int32), st'.length = (stp (nm σ) st o).length → st' = stp (nm σ) st o → (∀ q, q < st'.length → g' q = st'.reverse.getD q 0) → st'.length + rest.length ≤ 160 → wfp st'.length rest → ∃ g'', b_X3_says_49 N t (nI p) j fu (nI e) (nI st'.length) (nI i + 1) (rAI M0 70 g') = some (bnd p ((evL (nm σ) (o :: rest) st).getD 0 0), rAI M0 70 g'') := by
      intro st' g' _ h2 h3 h4 h5
      rw [nI_1]
      have := ih fu (i + 1) st' g' (by omega) (by omega) h4 hd' h3 h5
      rw [h2] at this
      rw [h2]
      exact this
    have push : o.1 = 0 ∨ o.1 = 1 → ∃ g', b_X3_says_75 N t (nI p) j (b_X3_says_49 N t (nI p) j fu) (nI e) (nI st.length) (nI i) (nI o.1) (rAI M0 70 g) = some (bnd p ((evL (nm σ) (o :: rest) st).getD 0 0), rAI M0 70 g') := by
      intro hc
      rw [if_pos hc] at hrest
      unfold b_X3_says_75
      rw [if_neg (show ¬ nI (len 70) ≤ nI st.length from nI_ge (show st.length < 160 by omega) (by decide)), gd_t (by rw [n_3_1 ht]; exact inb_nI (by omega) (by omega)), gd_t (by rw [n_3_1 ht]; exact inb_nI (by omega) (by omega)), eB, ei, d2]
      rcases hc with hc | hc
      · rw [if_pos (by rw [hc]; rfl)]
        unfold b_X3_says_117 b_X3_says_118 b_X3_says_209
        rw [gd_t (show inb (nI st.length) (len 70) = true from inb_nI (show st.length < 160 by omega) (by decide)), sAI_rAI, es, nI_1]
        exact next (nI o.2 :: st) _ (by simp [stp, hc]) (by simp [stp, hc]) (rev_top hg) (by simp; omega) hrest
      · rw [if_neg (by rw [hc]; decide)]
        have hn : f_X2_named j (nI o.2) (rAI M0 70 g) = some (nm σ o.2) := by
          refine named_c ?_ hw (o3 hc)
          obtain ⟨r0, r1, r2, r3, r4, r5, r6, r7, r8⟩ := hS
          exact ⟨r0, r1, r2, r3, r4, r5, r6, r7, fun k hk => by rw [AI_rAI_n _ _ (by omega)]; exact r8 k hk⟩
        rw [hn, bind_some_]
        unfold b_X3_says_117 b_X3_says_118 b_X3_says_209
        rw [gd_t (show inb (nI st.length) (len 70) = true from inb_nI (show st.length < 160 by omega) (by decide)), sAI_rAI, es, nI_1]
        exact next (nm σ o.2 :: st) _ (by simp [stp, hc]) (by simp [stp, hc]) (rev_top hg) (by simp; omega) hrest
    have one : o.1 = 2 ∨ o.1 = 3 → ∃ g', b_X3_says_136 N t (nI p) j (b_X3_says_49 N t (nI p) j fu) (nI e) (nI st.length) (nI i) (nI o.1) (rAI M0 70 g) = some (bnd p ((evL (nm σ) (o :: rest) st).getD 0 0), rAI M0 70 g') := by
      intro hc
      rw [if_neg (by omega), if_pos hc] at hrest
      obtain ⟨hge, hrest⟩ := hrest
      obtain ⟨a, st, rfl⟩ : ∃ a r, st = a :: r := by
        cases st with
        | nil => simp at hge
        | cons a r => exact ⟨a, r, rfl⟩
      have e1 : nI (a :: st).length - 1 = nI st.length := by rw [List.length_cons, nI_pred]
      have hlt : st.length < 160 := by simp at hlen; omega
      unfold b_X3_says_136
      rw [if_neg (show ¬ nI (a :: st).length < 1 from nI_nlt (a := (a :: st).length) (b := 1) (by simp) (by simp; omega)), e1, gd_t (show inb (nI st.length) (len 70) = true from inb_nI (show st.length < 160 from hlt) (by decide)), AI_rAI_s, nI_clamp (show st.length < 2 ^ 31 by omega), hg st.length (by simp), ofOne_c hc, bind_some_, gd_t (show inb (nI st.length) (len 70) = true from inb_nI (show st.length < 160 from hlt) (by decide)), sAI_rAI]
      unfold b_X3_says_165 b_X3_says_209
      have ea : (a :: st).reverse.getD st.length 0 = a := by simp [List.getD_eq_getElem?_getD, List.getElem?_append_right]
      rw [ea]
      have hg2 : ∀ q, q < st.length → g q = st.reverse.getD q 0 := by
        intro q hq
        rw [hg q (by simp; omega), List.reverse_cons, List.getD_eq_getElem?_getD, List.getElem?_append_left (by simpa using hq), List.getD_eq_getElem?_getD]
      exact next (one1 o.1 a :: st) _ (by rcases hc with hc | hc <;> simp [stp, hc]) (by rcases hc with hc | hc <;> simp [stp, hc]) (rev_top hg2) (by simp at hlen ⊢; omega) hrest
    by_cases c0 : o.1 = 0
    · rw [c0] at push ⊢
      rw [if_pos (by decide)]
      exact push (Or.inl rfl)
    · by_cases c1 : o.1 = 1
      · rw [c1] at push ⊢
        rw [if_neg (by decide), if_pos (by decide)]
        exact push (Or.inr rfl)
      · by_cases c2 : o.1 = 2
        · rw [c2] at one ⊢
          rw [if_neg (by decide), if_neg (by decide), if_pos (by decide)]
          exact one (Or.inl rfl)
        · by_cases c3 : o.1 = 3
          · rw [c3] at one ⊢
            rw [if_neg (by decide), if_neg (by decide), if_neg (by decide), if_pos (by decide)]
            exact one (Or.inr rfl)
          · rw [if_neg (by omega), if_neg (by omega)] at hrest
            obtain ⟨hge, hrest⟩ := hrest
            obtain ⟨b, a, st, rfl⟩ : ∃ b a r, st = b :: a :: r := by
              match st, hge with
              | b :: a :: r, _ => exact ⟨b, a, r, rfl⟩
            have e2 : nI (b :: a :: st).length - 2 = nI st.length := by rw [List.length_cons, List.length_cons, show (2 : Int32) = nI 2 from rfl, pk_sub (by omega)]; rfl
            have e1 : nI (b :: a :: st).length - 1 = nI (st.length + 1) := by rw [List.length_cons, nI_pred]; rfl
            have em : nI (b :: a :: st).length + (-1) = nI (two2 o.1 a b :: st).length := by rw [List.length_cons, pk_m1]; rfl
            have hlt : st.length < 158 := by simp at hlen; omega
            have ne : ∀ k : Nat, k < 4 → ¬ nI o.1 = nI k := fun k hk q => by
              have := (nI_eq (by omega) (by omega)).mp q
              omega
            have ga : g st.length = a := by rw [hg st.length (by simp; omega)]; simp [List.getD_eq_getElem?_getD, List.getElem?_append_right, List.getElem?_append_left]
            have gb : g (st.length + 1) = b := by rw [hg (st.length + 1) (by simp)]; simp [List.getD_eq_getElem?_getD, List.getElem?_append_right]
            rw [if_neg (show ¬ nI o.1 = 0 from ne 0 (by decide)), if_neg (show ¬ nI o.1 = 1 from ne 1 (by decide)), if_neg (show ¬ nI o.1 = 2 from ne 2 (by decide)), if_neg (show ¬ nI o.1 = 3 from ne 3 (by decide)), if_neg (show ¬ nI (b :: a :: st).length < 2 from nI_nlt (a := (b :: a :: st).length) (b := 2) (by simp) (by simp; omega)), e2, e1,
              gd_t (show inb (nI st.length) (len 70) = true from inb_nI (show st.length < 160 by omega) (by decide)), gd_t (show inb (nI (st.length + 1)) (len 70) = true from inb_nI (show st.length + 1 < 160 by omega) (by decide)), AI_rAI_s, nI_clamp (show st.length < 2 ^ 31 by omega), nI_clamp (show st.length + 1 < 2 ^ 31 by omega), ga, gb, ofTwo_c (by omega) o1, bind_some_, gd_t (show inb (nI st.length) (len 70) = true from inb_nI (show st.length < 160 by omega) (by decide)), sAI_rAI]
            unfold b_X3_says_206 b_X3_says_209
            rw [em]
            have hg2 : ∀ q, q < st.length → g q = st.reverse.getD q 0 := by
              intro q hq
              rw [hg q (by simp; omega), List.reverse_cons, List.reverse_cons, List.getD_eq_getElem?_getD, List.append_assoc, List.getElem?_append_left (by simpa using hq), List.getD_eq_getElem?_getD]
            exact next (two2 o.1 a b :: st) _ (by simp [stp, c0, c1, c2, c3]) (by simp [stp, c0, c1, c2, c3]) (rev_top hg2) (by simp at hlen ⊢; omega) hrest
/-- the class' text at t holds x -/
def RTc (M : Mem) (t : Nat) (x : Txt) : Prop := (∀ p, p < 3 → ∀ k, k < (tP x p).length → AI M (t + 6) (tB x p + k) = nI ((tP x p).getD k (0, 0)).1 ∧ AI M (t + 12) (tB x p + k) = nI ((tP x p).getD k (0, 0)).2) ∧ ∀ p, p < 3 → AI M (t + 18) p = nI (tE x p)
/-- what part p of a text says of one, within its bounds -/
def ask (x : Txt) (σ : Sl) (p : Nat) : Int32 := bnd p (evP (nm σ) (tP x p))
theorem tE_le {x : Txt} (h : wfT x) {p : Nat} (hp : p < 3) : tE x p ≤ 160 := by
  have e : p = 0 ∨ p = 1 ∨ p = 2 := by omega
  have := h.2
  rcases e with rfl | rfl | rfl <;> simp only [tE, tB, tP] <;> simp <;> omega
theorem tB_E {x : Txt} {p : Nat} (hp : p < 3) (h0 : 0 < p) : tB x p = tE x (p - 1) := by
  have e : p = 1 ∨ p = 2 := by omega
  rcases e with rfl | rfl <;> simp [tE, tB, tP]
theorem says_c {N t p j : Nat} {σ : Sl} {M : Mem} {x : Txt} (hN : 160 < N) (hp : p < 3) (ht : kd t = 3) (hj : kd j = 2) (hS : RS M j σ) (hw : wfS σ) (hT : RTc M t x) (hx : wfT x) : ∃ g, f_X3_says N t (nI p) j M = some (ask x σ p, rAI M 70 g) := by
  have hE := tE_le hx hp
  have hB : tB x p + (tP x p).length = tE x p := rfl
  unfold f_X3_says b_X3_says_0
  rw [if_neg (nI_pos (by omega)), if_pos (show nI p < 3 from nI_lt (a := p) (b := 3) hp (by decide)), gd_t (by rw [n_3_2 ht]; exact inb_nI (by omega) (by decide)), nI_clamp (by omega), hT.2 p hp]
  have e1 : (if nI (tE x p) < 160 then nI (tE x p) else 160) = nI (tE x p) := by
    by_cases q : tE x p = 160
    · rw [q]; rfl
    · rw [if_pos (show nI (tE x p) < 160 from nI_lt (a := tE x p) (b := 160) (by omega) (by decide))]
  rw [e1]
  unfold b_X3_says_24 b_X3_says_47
  have go : ∃ g, b_X3_says_49 N t (nI p) j N (nI (tE x p)) 0 (nI (tB x p)) M = some (ask x σ p, rAI M 70 g) := by
    have h := says_loop_c (N := N) hp ht hj hS hw hE (tP x p) N (tB x p) [] (AI M 70) (by omega) hB (by simp; omega) (fun k hk => hT.1 p hp k hk) (fun q hq => by simp at hq) (hx.1 p hp)
    rw [rAI_self] at h
    exact h
  by_cases h0 : p = 0
  · subst h0
    rw [if_pos (by decide)]
    exact go
  · rw [if_neg (by rw [show (0 : Int32) = nI 0 from rfl, leI (by omega) (by decide)]; omega)]
    have e2 : nI p - 1 = nI (p - 1) := by rw [show (1 : Int32) = nI 1 from rfl, pk_sub (by omega)]
    rw [e2, gd_t (by rw [n_3_2 ht]; exact inb_nI (by omega) (by decide)), nI_clamp (by omega), hT.2 (p - 1) (by omega), ← tB_E hp (by omega)]
    have e3 : (if (0 : Int32) < nI (tB x p) then nI (tB x p) else 0) = nI (tB x p) := by
      by_cases q : tB x p = 0
      · rw [q]; rfl
      · rw [if_pos (show 0 < nI (tB x p) from nI_lt (a := 0) (b := tB x p) (by omega) (by omega))]
    rw [e3]
    exact go
