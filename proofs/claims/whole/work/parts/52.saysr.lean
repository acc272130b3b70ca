/-! L2: what the texts say: reference -/
def encO (o : Op) : Nat := if o.1 = 0 then 100000 + o.2 else if o.1 = 1 then o.2 else if o.1 = 2 then 19 else if o.1 = 3 then 13 else if o.1 = 4 then 18 else if o.1 = 5 then 16 else if o.1 = 6 then 17 else if o.1 = 7 then 14 else if o.1 = 8 then 15 else if o.1 = 9 then 12 else 11
/-- the reference's text i holds x -/
def RTr (R : Mem) (i : Nat) (x : Txt) : Prop := (∀ p, p < 3 → ∀ k, k < (tP x p).length → AI R 107 (200 * i + (tB x p + k)) = nI (encO ((tP x p).getD k (0, 0)))) ∧ (∀ p, p < 3 → AI R 108 (4 * i + p) = nI (tB x p)) ∧ AI R 108 (4 * i + 3) = nI (tE x 2)
theorem two_r {o : Op} (h : 4 ≤ o.1) (h2 : o.1 ≤ 10) (x y : Int32) (R : Mem) : f_X6_two (nI (encO o)) x y R = some (two2 o.1 x y) := by
  have e : o.1 = 4 ∨ o.1 = 5 ∨ o.1 = 6 ∨ o.1 = 7 ∨ o.1 = 8 ∨ o.1 = 9 ∨ o.1 = 10 := by omega
  unfold f_X6_two b_X6_two_0 b_X6_two_102 two2 encO
  rcases e with e | e | e | e | e | e | e
  · rw [e]; simp (decide := true) only [if_true, if_false, reduceIte]
  · rw [e]; simp (decide := true) only [if_true, if_false, reduceIte]
  · rw [e]; simp (decide := true) only [if_true, if_false, reduceIte]
  · rw [e]; simp (decide := true) only [if_true, if_false, reduceIte]
    by_cases q : x < y
    · rw [if_pos q, if_neg (lt_nle q)]
    · rw [if_neg q, if_pos (nlt_le q)]
  · rw [e]; simp (decide := true) only [if_true, if_false, reduceIte]
    split <;> rfl
  · rw [e]; simp (decide := true) only [if_true, if_false, reduceIte]
    by_cases q : x = 0 <;> by_cases q2 : y = 0 <;> simp [q, q2]
  · rw [e]; simp (decide := true) only [if_true, if_false, reduceIte]
    by_cases q : x = 0 <;> by_cases q2 : y = 0 <;> simp [q, q2]
theorem says_loop_r {N p i e : Nat} {nmf : Nat → Int32} {R0 : Mem} (hp : p < 3) (hi : i < 6) (hr : FI R0 100 13 = nI i) (hn : ∀ w, w < 6 → AI R0 118 w = nmf w) (he : e ≤ 160) (hE : AI R0 108 (4 * i + p + 1) = nI e) :
    ∀ (rest : List Op) (fu q : Nat) (st : List Int32) (g : Nat → Int32), rest.length < fu → q + rest.length = e → st.length + rest.length ≤ 160 → (∀ k, k < rest.length → AI R0 107 (200 * i + (q + k)) = nI (encO (rest.getD k (0, 0)))) → (∀ k, k < st.length → g k = st.reverse.getD k 0) → wfp st.length rest →
      ∃ g', b_X6_says_16 N (nI p) fu (nI st.length) (nI q) (rAI R0 117 g) = some ((evL nmf rest st).getD 0 0, rAI R0 117 g') := by
  intro rest
  have x1 : 4 * nI i + nI p + 1 = nI (4 * i + p + 1) := by rw [show (4 : Int32) = nI 4 from rfl, pk_mul, nI_add, nI_1]
  have x2 : ∀ q, (200 : Int32) * nI i + nI q = nI (200 * i + q) := fun q => by rw [show (200 : Int32) = nI 200 from rfl, pk_mul, nI_add]
  have eA : ∀ gg, AI (rAI R0 117 gg) 108 = AI R0 108 := fun gg => AI_rAI_n _ _ (by omega)
  have eB : ∀ gg, AI (rAI R0 117 gg) 107 = AI R0 107 := fun gg => AI_rAI_n _ _ (by omega)
  have eC : ∀ gg, AI (rAI R0 117 gg) 118 = AI R0 118 := fun gg => AI_rAI_n _ _ (by omega)
  induction rest with
  | nil =>
    intro fu q st g hf hq hlen hd hg hwf
    obtain ⟨fu, rfl⟩ : ∃ z, fu = z + 1 := ⟨fu - 1, by simp at hf; omega⟩
    simp only [List.length_nil, Nat.add_zero] at hq
    have h1 : st.length = 1 := hwf
    obtain ⟨v, rfl⟩ := List.length_eq_one_iff.mp h1
    refine ⟨g, ?_⟩
    rw [b_X6_says_16, show FI (rAI R0 117 g) 100 13 = nI i from hr, x1, gdn (n := len 108) (show 4 * i + p + 1 < 24 by omega) (by decide), eA, nI_clamp (by omega), hE, if_pos (nI_le (by omega) (by omega)), AI_rAI_s, show (0 : Int32).toNatClampNeg = 0 from rfl, hg 0 (by simp)]
    rfl
  | cons o rest ih =>
    intro fu q st g hf hq hlen hd hg hwf
    obtain ⟨fu, rfl⟩ : ∃ z, fu = z + 1 := ⟨fu - 1, by omega⟩
    simp only [List.length_cons] at hq hlen hf
    have d1 := hd 0 (by simp)
    simp only [Nat.add_zero, List.getD_cons_zero] at d1
    obtain ⟨⟨o1, o2, o3⟩, hrest⟩ := hwf
    have hd' : ∀ k, k < rest.length → AI R0 107 (200 * i + (q + 1 + k)) = nI (encO (rest.getD k (0, 0))) := by
      intro k hk
      have := hd (k + 1) (by simp; omega)
      rw [List.getD_cons_succ, show q + (k + 1) = q + 1 + k from by omega] at this
      exact this
    have es : (nI st.length).toNatClampNeg = st.length := nI_clamp (by omega)
    rw [b_X6_says_16, show FI (rAI R0 117 g) 100 13 = nI i from hr, x1, gdn (n := len 108) (show 4 * i + p + 1 < 24 by omega) (by decide), eA, nI_clamp (by omega), hE, if_neg (nI_ge (by omega) (by omega)), x2, gdn (n := len 107) (show 200 * i + q < 1200 by omega) (by decide), eB, nI_clamp (by omega), d1]
    have next : ∀ (st' : List Int32) (g' : Nat → Int32), st' = stp nmf st o → (∀ k, k < st'.length → g' k = st'.reverse.getD k 0) → st'.length + rest.length ≤ 160 → wfp st'.length rest → ∃ g'', b_X6_says_16 N (nI p) fu (nI st'.length) (nI q + 1) (rAI R0 117 g') = some ((evL nmf (o :: rest) st).getD 0 0, rAI R0 117 g'') := by
      intro st' g' h2 h3 h4 h5
      rw [nI_1]
      have := ih fu (q + 1) st' g' (by omega) (by omega) h4 hd' h3 h5
      rw [h2] at this
      rw [h2]
      exact this
    have lt160 : st.length < 160 := by omega
    have ib : inb (nI st.length) (len 117) = true := inb_nI (show st.length < 200 by omega) (by decide)
    unfold b_X6_says_52 b_X6_says_66 b_X6_says_93 b_X6_says_94 b_X6_says_158 b_X6_says_130 b_X6_says_131 b_X6_says_191
    by_cases c0 : o.1 = 0
    · have en : encO o = 100000 + o.2 := by unfold encO; rw [if_pos c0]
      have := o2 c0
      rw [en, if_pos (show (100000 : Int32) ≤ nI (100000 + o.2) from nI_le (a := 100000) (by omega) (by omega)), if_pos (show (11 : Int32) ≤ nI (100000 + o.2) from nI_le (a := 11) (by omega) (by omega)), gd_t ib, show (100000 : Int32) = nI 100000 from rfl, pk_sub (by omega), show 100000 + o.2 - 100000 = o.2 by omega, sAI_rAI, es, nI_1]
      rw [if_pos (Or.inl c0)] at hrest
      exact next (nI o.2 :: st) _ (by simp [stp, c0]) (rev_top hg) (by simp; omega) hrest
    · by_cases c1 : o.1 = 1
      · have en : encO o = o.2 := by unfold encO; rw [if_neg c0, if_pos c1]
        have hw := o3 c1
        rw [en, if_neg (show ¬ (100000 : Int32) ≤ nI o.2 from nI_ge (b := 100000) (by omega) (by decide)), if_neg (show ¬ (11 : Int32) ≤ nI o.2 from nI_ge (b := 11) (by omega) (by decide)), if_neg (show ¬ (11 : Int32) ≤ nI o.2 from nI_ge (b := 11) (by omega) (by decide)), gdn (n := len 118) (show o.2 < 6 by omega) (by decide), gd_t ib, eC, nI_clamp (show o.2 < 2 ^ 31 by omega), hn _ hw, sAI_rAI, es, nI_1]
        rw [if_pos (Or.inr c1)] at hrest
        exact next (nmf o.2 :: st) _ (by simp [stp, c0, c1]) (rev_top hg) (by simp; omega) hrest
      · rw [if_neg (by omega)] at hrest
        have n1 : ¬ (100000 : Int32) ≤ nI (encO o) := by
          refine nI_ge (b := 100000) ?_ (by decide)
          unfold encO; rw [if_neg c0, if_neg c1]; split <;> (try split) <;> (try split) <;> (try split) <;> (try split) <;> (try split) <;> (try split) <;> (try split) <;> omega
        have n2 : (11 : Int32) ≤ nI (encO o) := by
          refine nI_le (a := 11) ?_ ?_ <;> (unfold encO; rw [if_neg c0, if_neg c1]; split <;> (try split) <;> (try split) <;> (try split) <;> (try split) <;> (try split) <;> (try split) <;> (try split) <;> omega)
        rw [if_neg n1, if_pos n2]
        by_cases c2 : o.1 = 2 ∨ o.1 = 3
        · rw [if_pos c2] at hrest
          obtain ⟨hge, hrest⟩ := hrest
          obtain ⟨a, st, rfl⟩ : ∃ a r, st = a :: r := by
            match st, hge with
            | a :: r, _ => exact ⟨a, r, rfl⟩
          have e1 : nI (a :: st).length - 1 = nI st.length := by rw [List.length_cons, nI_pred]
          have hlt : st.length < 160 := by simp at hlen; omega
          have ib1 : inb (nI st.length) (len 117) = true := inb_nI (show st.length < 200 by omega) (by decide)
          have ea : g st.length = a := by rw [hg st.length (by simp)]; simp [List.getD_eq_getElem?_getD, List.getElem?_append_right]
          have hg2 : ∀ k, k < st.length → g k = st.reverse.getD k 0 := by
            intro k hk
            rw [hg k (by simp; omega), List.reverse_cons, List.getD_eq_getElem?_getD, List.getElem?_append_left (by simpa using hk), List.getD_eq_getElem?_getD]
          have cl : (nI st.length).toNatClampNeg = st.length := nI_clamp (by omega)
          rcases c2 with c2 | c2
          · have en : encO o = 19 := by unfold encO; rw [if_neg c0, if_neg c1, if_pos c2]
            rw [en, if_neg (show ¬ nI 19 = 13 from by decide), if_pos (show nI 19 = 19 from rfl), e1, gd_t ib1, gd_t ib1, cl, AI_rAI_s, ea, sAI_rAI]
            exact next (one1 o.1 a :: st) _ (by simp [stp, c2]) (by rw [show one1 o.1 a = -a from by simp [one1, c2]]; exact rev_top hg2) (by simp at hlen ⊢; omega) hrest
          · have en : encO o = 13 := by unfold encO; rw [if_neg c0, if_neg c1, if_neg (by omega), if_pos c2]
            rw [en, if_pos (show nI 13 = 13 from rfl), e1, gd_t ib1, cl, AI_rAI_s, ea, gd_t ib1, gd_t ib1, sAI_rAI, sAI_rAI]
            by_cases z : a = 0
            · rw [if_pos z]
              exact next (one1 o.1 a :: st) _ (by simp [stp, c2]) (by rw [show one1 o.1 a = 1 from by simp [one1, c2, z]]; exact rev_top hg2) (by simp at hlen ⊢; omega) hrest
            · rw [if_neg z]
              exact next (one1 o.1 a :: st) _ (by simp [stp, c2]) (by rw [show one1 o.1 a = 0 from by simp [one1, c2, z]]; exact rev_top hg2) (by simp at hlen ⊢; omega) hrest
        · rw [if_neg c2] at hrest
          obtain ⟨hge, hrest⟩ := hrest
          obtain ⟨b, a, st, rfl⟩ : ∃ b a r, st = b :: a :: r := by
            match st, hge with
            | b :: a :: r, _ => exact ⟨b, a, r, rfl⟩
          have n13 : ¬ nI (encO o) = 13 := by
            intro z
            have z := (nI_eq (a := encO o) (b := 13) (by unfold encO; rw [if_neg c0, if_neg c1]; split <;> (try split) <;> (try split) <;> (try split) <;> (try split) <;> (try split) <;> (try split) <;> (try split) <;> omega) (by decide)).mp z
            unfold encO at z; rw [if_neg c0, if_neg c1, if_neg (by omega), if_neg (by omega)] at z
            revert z; split <;> (try split) <;> (try split) <;> (try split) <;> (try split) <;> (try split) <;> omega
          have n19 : ¬ nI (encO o) = 19 := by
            intro z
            have z := (nI_eq (a := encO o) (b := 19) (by unfold encO; rw [if_neg c0, if_neg c1]; split <;> (try split) <;> (try split) <;> (try split) <;> (try split) <;> (try split) <;> (try split) <;> (try split) <;> omega) (by decide)).mp z
            unfold encO at z; rw [if_neg c0, if_neg c1, if_neg (by omega), if_neg (by omega)] at z
            revert z; split <;> (try split) <;> (try split) <;> (try split) <;> (try split) <;> (try split) <;> omega
          have em : nI (b :: a :: st).length + (-1) = nI (st.length + 1) := by rw [List.length_cons, pk_m1]; rfl
          have e1 : nI (st.length + 1) - 1 = nI st.length := nI_pred _
          have hlt : st.length < 158 := by simp at hlen; omega
          have ib0 : inb (nI st.length) (len 117) = true := inb_nI (show st.length < 200 by omega) (by decide)
          have ib1 : inb (nI (st.length + 1)) (len 117) = true := inb_nI (show st.length + 1 < 200 by omega) (by decide)
          have ga : g st.length = a := by rw [hg st.length (by simp; omega)]; simp [List.getD_eq_getElem?_getD, List.getElem?_append_right, List.getElem?_append_left]
          have gb : g (st.length + 1) = b := by rw [hg (st.length + 1) (by simp)]; simp [List.getD_eq_getElem?_getD, List.getElem?_append_right]
          have hg2 : ∀ k, k < st.length → g k = st.reverse.getD k 0 := by
            intro k hk
            rw [hg k (by simp; omega), List.reverse_cons, List.reverse_cons, List.getD_eq_getElem?_getD, List.append_assoc, List.getElem?_append_left (by simpa using hk), List.getD_eq_getElem?_getD]
          rw [if_neg n13, if_neg n19, em, e1, gd_t ib0, gd_t ib1, AI_rAI_s, nI_clamp (show st.length < 2 ^ 31 by omega), nI_clamp (show st.length + 1 < 2 ^ 31 by omega), ga, gb, two_r (by omega) o1, bind_some_, gd_t ib0, sAI_rAI]
          exact next (two2 o.1 a b :: st) _ (by simp [stp, c0, c1]; omega) (rev_top hg2) (by simp at hlen ⊢; omega) hrest
