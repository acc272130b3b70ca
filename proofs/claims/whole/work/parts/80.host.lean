/-! L2: sheet, cell, taken -/
theorem fill_loop {N a : Nat} {M : Mem} (ha : len a = 40) : ∀ (m fu p : Nat) (g : Nat → Int32), m < fu → p + m = 40 → (∀ k, k < p → g k = 0) → ∃ g', b_J7_fill_53178_5 N a (0 : Int32) fu (nI p) (nI 40) (rAI M a g) = some (rAI M a g') ∧ ∀ k, k < 40 → g' k = 0 := by
  intro m
  induction m with
  | zero =>
    intro fu p g hf hp hg
    obtain ⟨fu, rfl⟩ : ∃ z, fu = z + 1 := ⟨fu - 1, by omega⟩
    have : p = 40 := by omega
    subst this
    rw [b_J7_fill_53178_5, if_pos (show nI 40 ≤ nI 40 by decide)]
    exact ⟨g, rfl, hg⟩
  | succ m ih =>
    intro fu p g hf hp hg
    obtain ⟨fu, rfl⟩ : ∃ z, fu = z + 1 := ⟨fu - 1, by omega⟩
    rw [b_J7_fill_53178_5, if_neg (nI_ge (show p < 40 by omega) (by decide)), gd_t (by rw [ha]; exact inb_nI (by omega) (by decide)), nI_clamp (by omega), sAI_rAI]
    unfold b_J7_fill_53178_14
    rw [nI_1]
    refine ih fu (p + 1) _ (by omega) (by omega) (fun k hk => ?_)
    show (if k = p then _ else g k) = _
    by_cases h : k = p
    · rw [if_pos h]
    · rw [if_neg h]; exact hg k (by omega)
theorem row_c {N k z : Nat} {M : Mem} (hN : 160 < N) (hk : k < 4) (hz : z ≤ 40) (o : Int32) : ∃ M', f_X1_becomeRow N (74 + k) o (nI z) M = some M' ∧ Mx (fun a => a = 74 + k ∨ a = 78 + k) M M' ∧ FI M' (74 + k) 0 = o ∧ FI M' (74 + k) 1 = nI z ∧ ∀ j, j < 40 → AI M' (78 + k) j = 0 := by
  unfold f_X1_becomeRow b_X1_becomeRow_0 b_X1_becomeRow_5 b_X1_becomeRow_19
  have e : (if (0 : Int32) < (if nI z < (40 : Int32) then nI z else (40 : Int32)) then (if nI z < (40 : Int32) then nI z else (40 : Int32)) else (0 : Int32)) = nI z := by
    by_cases h40 : z < 40
    · rw [if_pos (show nI z < (40 : Int32) from nI_lt (b := 40) h40 (by decide))]
      by_cases h0 : z = 0
      · subst h0; rfl
      · rw [if_pos (show (0 : Int32) < nI z from nI_lt (a := 0) (by omega) (by omega))]
    · have : z = 40 := by omega
      subst this
      rfl
  rw [e]
  have l40 : len (74 + k + 4) = 40 := n_1_2 (kd1 hk)
  obtain ⟨g, h1, h2⟩ := fill_loop (N := N) (M := sFI (sFI M (74 + k) 0 o) (74 + k) 1 (nI z)) l40 40 N 0 (AI M (74 + k + 4)) (by omega) (by omega) (fun k hk => by omega)
  unfold f_J7_fill_53178 b_J7_fill_53178_0
  rw [show AI M (74 + k + 4) = AI (sFI (sFI M (74 + k) 0 o) (74 + k) 1 (nI z)) (74 + k + 4) from rfl, rAI_self] at h1
  rw [l40, show ((0 : Int32)) = nI 0 from rfl]
  rw [show ((0 : Int32)) = nI 0 from rfl] at h1
  rw [h1, bind_some_]
  refine ⟨_, rfl, fun b hb => ⟨fun j => ?_, fun j => rfl, ?_⟩, ?_, ?_, fun j hj => ?_⟩
  · rw [FI_rAI, FI_sFI, if_neg (fun q => hb (Or.inl q.1)), FI_sFI, if_neg (fun q => hb (Or.inl q.1))]
  · rw [AI_rAI_n _ _ (fun q => hb (Or.inr (by omega)))]; rfl
  · rw [FI_rAI, FI_n (by decide), FI_s]
  · rw [FI_rAI, FI_s]
  · rw [show 78 + k = 74 + k + 4 by omega, AI_rAI_s]; exact h2 j hj
theorem sh_loop {N k : Nat} {x2 x3 : Int32} (hk : k < 4) : ∀ (m fu p : Nat) (R : Mem), m < fu → p + m = 40 → (∀ j, j < p → AI R 113 (40 * k + j) = 0) → ∃ R', b_X6_sheet_70 N (nI k) x2 x3 fu (nI p) R = some (1, R') ∧ Mu R R' k ∧ (∀ b, b ≠ 113 → AI R' b = AI R b) ∧ ∀ j, j < 40 → AI R' 113 (40 * k + j) = 0 := by
  intro m
  induction m with
  | zero =>
    intro fu p R hf hp hg
    obtain ⟨fu, rfl⟩ : ∃ z, fu = z + 1 := ⟨fu - 1, by omega⟩
    have : p = 40 := by omega
    subst this
    rw [b_X6_sheet_70, if_pos (show (40 : Int32) ≤ nI 40 by decide)]
    exact ⟨R, rfl, Mu.rf _ _, fun _ _ => rfl, hg⟩
  | succ m ih =>
    intro fu p R hf hp hg
    obtain ⟨fu, rfl⟩ : ∃ z, fu = z + 1 := ⟨fu - 1, by omega⟩
    rw [b_X6_sheet_70, if_neg (show ¬ (40 : Int32) ≤ nI p from nI_ge (b := 40) (by omega) (by decide)), show (40 : Int32) * nI k + nI p = nI (40 * k + p) by rw [show (40 : Int32) * nI k = nI (40 * k) from pk_mul 40 k, nI_add], gdn (n := len 113) (show 40 * k + p < 160 by omega) (by decide), nI_clamp (by omega)]
    unfold b_X6_sheet_90
    rw [nI_1]
    obtain ⟨R', a1, a2, a3, a4⟩ := ih fu (p + 1) (sAI R 113 (40 * k + p) 0) (by omega) (by omega) (fun j hj => by
      by_cases e : j = p
      · rw [e, AI_s]
      · rw [AI_n (by omega)]; exact hg j (by omega))
    exact ⟨R', a1, (Mu.num R 0 (by omega) (by omega)).tr a2, fun b hb => (a3 b hb).trans (AI_nf hb), a4⟩
theorem sheet44_r {N k z : Nat} {x2 x3 : Int32} {R : Mem} (hN : 160 < N) (hk : k < 4) (hx : if x2 = -1 then z = 0 else x3 = nI z) : ∃ R', b_X6_sheet_44 N (nI k) x2 x3 R = some (1, R') ∧ Mu R R' k ∧ AI R' 111 k = x2 ∧ AI R' 112 k = nI z ∧ ∀ j, j < 40 → AI R' 113 (40 * k + j) = 0 := by
  have kk : (nI k).toNatClampNeg = k := nI_clamp (by omega)
  have e51 : b_X6_sheet_51 N (nI k) x2 x3 (sAI R 111 k x2) = b_X6_sheet_66 N (nI k) x2 x3 (nI k) (nI z) (sAI R 111 k x2) := by
    unfold b_X6_sheet_51
    by_cases e : x2 = -1
    · rw [if_pos e] at hx ⊢
      rw [hx]; rfl
    · rw [if_neg e] at hx ⊢
      rw [hx]
  unfold b_X6_sheet_44
  rw [gdn (n := len 111) (show k < 4 from hk) (by decide), kk, e51]
  unfold b_X6_sheet_66 b_X6_sheet_67
  rw [gdn (n := len 112) (show k < 4 from hk) (by decide), kk]
  obtain ⟨R', a1, a2, a3, a4⟩ := sh_loop (N := N) (x2 := x2) (x3 := x3) hk 40 N 0 (sAI (sAI R 111 k x2) 112 k (nI z)) (by omega) (by omega) (fun j hj => by omega)
  refine ⟨R', a1, ((Mu.sort R k _).tr (Mu.size _ k _)).tr a2, ?_, ?_, a4⟩
  · rw [a3 111 (by decide), AI_na (by decide), AI_s]
  · rw [a3 112 (by decide), AI_s]
theorem sort4 {x : Int32} (h1 : ¬ x < -1) (h2 : x ≤ 2) : x = -1 ∨ x = 0 ∨ x = 1 ∨ x = 2 := by
  rw [Int32.lt_iff_toInt_lt] at h1
  rw [Int32.le_iff_toInt_le] at h2
  have a1 : (-1 : Int32).toInt = -1 := by decide
  have a2 : (2 : Int32).toInt = 2 := by decide
  have e : x.toInt = -1 ∨ x.toInt = 0 ∨ x.toInt = 1 ∨ x.toInt = 2 := by omega
  rcases e with e | e | e | e
  · exact Or.inl (Int32.toInt_inj.mp e)
  · exact Or.inr (Or.inl (Int32.toInt_inj.mp e))
  · exact Or.inr (Or.inr (Or.inl (Int32.toInt_inj.mp e)))
  · exact Or.inr (Or.inr (Or.inr (Int32.toInt_inj.mp e)))
theorem st_sheet {N : Nat} {M R : Mem} (hN : 160 < N) (x1 x2 x3 : Int32) (h : Sim M R) : ∃ r M' R', f_X5_sheet N x1 x2 x3 M = some (r, M') ∧ f_X6_sheet N x1 x2 x3 R = some (r, R') ∧ Sim M' R' := by
  obtain ⟨s, hw, hc, hr⟩ := h
  have bad : Sim M R := ⟨s, hw, hc, hr⟩
  unfold f_X5_sheet b_X5_sheet_0 f_X6_sheet b_X6_sheet_0
  rcases sheet_b x1 M R with ⟨k, hk, rfl, e1, e2⟩ | ⟨e1, e2⟩
  · rw [e1, e2, bind_some_, bind_some_, if_pos rfl, if_pos rfl, in_r, bind_some_]
    by_cases q1 : x2 < (-1 : Int32)
    · rw [if_pos q1, decide_eq_false (fun z => z.1 q1), if_neg Bool.false_ne_true]
      exact ⟨_, M, R, rfl, rfl, bad⟩
    by_cases q2 : x2 ≤ (2 : Int32)
    · rw [if_neg q1, if_pos q2, decide_eq_true ⟨q1, Int32.not_lt.mpr q2⟩, if_pos rfl]
      have fin : ∀ z : Nat, z ≤ 40 → (if x2 = -1 then z = 0 else x3 = nI z) → ∃ r M' R', ((f_X1_becomeRow N (74 + k) x2 (nI z) M).bind fun M33 => some ((1 : Int32), M33)) = some (r, M') ∧ b_X6_sheet_44 N (nI k) x2 x3 R = some (r, R') ∧ Sim M' R' := by
        intro z hz hx
        obtain ⟨M', a1, a2, a3, a4, a5⟩ := row_c (N := N) (M := M) hN hk hz x2
        obtain ⟨R', b1, b2, b3, b4, b5⟩ := sheet44_r (N := N) (R := R) hN hk hx
        rw [a1, bind_some_, b1]
        exact ⟨_, _, _, rfl, rfl, withU s k x2 z (fun _ => 0), wf_withU hw (sort4 q1 q2) hz (fun e => by rw [if_pos e] at hx; exact hx), hc.sh hw hk (a2.wk (fun a ha => ha.elim Or.inl (fun z => Or.inr (Or.inl z)))) a3 a4 a5, hr.sh hk b2 b3 b4 b5⟩
      by_cases q3 : x2 = (-1 : Int32)
      · unfold b_X6_sheet_32
        rw [if_pos q3, if_pos q3, if_pos q3, gd_t (i73 hk), nI_clamp (by omega), ar73, gd_t (isK_t (kd1 hk))]
        have f := fin 0 (by omega) (by rw [if_pos q3])
        rw [q3] at f ⊢
        exact f
      · unfold b_X6_sheet_32
        rw [if_neg q3, if_neg q3, if_neg q3]
        by_cases q4 : x3 ≤ (40 : Int32)
        · rw [if_pos q4, if_pos q4]
          by_cases q5 : (0 : Int32) ≤ x3
          · rw [if_pos q5, if_pos q5, gd_t (i73 hk), nI_clamp (by omega), ar73, gd_t (isK_t (kd1 hk))]
            obtain ⟨z, hz, rfl⟩ := nn_ex (x := x3) (Int32.not_lt.mpr q5)
            exact fin z (by rw [show (40 : Int32) = nI 40 from rfl, leI hz (by decide)] at q4; exact q4) (by rw [if_neg q3])
          · rw [if_neg q5, if_neg q5]
            exact ⟨_, M, R, rfl, rfl, bad⟩
        · rw [if_neg q4, if_neg q4]
          exact ⟨_, M, R, rfl, rfl, bad⟩
    · rw [if_neg q1, if_neg q2, decide_eq_false (fun z => z.2 (Int32.not_le.mp q2)), if_neg Bool.false_ne_true]
      exact ⟨_, M, R, rfl, rfl, bad⟩
  · rw [e1, e2, bind_some_, bind_some_, if_neg Bool.false_ne_true, if_neg Bool.false_ne_true]
    exact ⟨_, M, R, rfl, rfl, bad⟩
theorem st_cell {M R : Mem} (x1 x2 x3 : Int32) (h : Sim M R) : ∃ r M' R', f_X5_cell x1 x2 x3 M = some (r, M') ∧ f_X6_cell x1 x2 x3 R = some (r, R') ∧ Sim M' R' := by
  obtain ⟨s, hw, hc, hr⟩ := h
  have bad : Sim M R := ⟨s, hw, hc, hr⟩
  unfold f_X5_cell b_X5_cell_0 f_X6_cell b_X6_cell_0
  rcases sheet_b x1 M R with ⟨k, hk, rfl, e1, e2⟩ | ⟨e1, e2⟩
  · obtain ⟨c0, c1, c2⟩ := hc.2.2.2.2.2.2.2 k hk
    obtain ⟨d0, d1, d2⟩ := hr.2.2.2.2.2.2.2.1 k hk
    obtain ⟨u0, u1, u2⟩ := hw.2.2.2.2 k hk
    have kk : (nI k).toNatClampNeg = k := nI_clamp (by omega)
    have i1 : inb (nI k) (len 111) = true := inb_nI (n := 4) hk (by decide)
    have i2 : inb (nI k) (len 112) = true := inb_nI (n := 4) hk (by decide)
    rw [sref_c hk, bind_some_, c0, e2, bind_some_, if_pos rfl, gd_t i1, gd_t i2, gd_t i1, gd_t i1, kk, d0, d1]
    by_cases hm : aO s k = -1
    · rw [if_pos hm, if_pos hm, if_neg (show ¬ (-11 : Int32) = 0 by decide)]
      exact ⟨_, M, R, rfl, rfl, bad⟩
    · rw [if_neg hm, if_neg hm, if_pos (show (0 : Int32) = 0 from rfl), gd_t (i73 hk), ar73, gd_t (isK_t (kd1 hk)), gd_t (i73 hk), gd_t (isK_t (kd1 hk))]
      rcases rg_b x2 (aZ s k) (by omega) with ⟨j, hj, rfl⟩ | hb
      · have fin : ∀ v : Int32, ∃ r M' R', ((b_X1_write_39 (74 + k) (nI j) x3 (nI j) v M).bind fun M39 => some ((1 : Int32), M39)) = some (r, M') ∧ b_X6_cell_84 (nI k) (nI j) x3 (40 * nI k + nI j) v R = some (r, R') ∧ Sim M' R' := by
          intro v
          unfold b_X1_write_39 b_X6_cell_84
          rw [gd_t (by rw [n_1_2 (kd1 hk)]; exact inb_nI (by omega) (by decide)), bind_some_, nI_clamp (show j < 2 ^ 31 by omega), show (40 : Int32) * nI k + nI j = nI (40 * k + j) by rw [show (40 : Int32) * nI k = nI (40 * k) from pk_mul 40 k, nI_add], gdn (n := len 113) (show 40 * k + j < 160 by omega) (by decide), nI_clamp (show 40 * k + j < 2 ^ 31 by omega)]
          refine ⟨_, _, _, rfl, rfl, withU s k (aO s k) (aZ s k) (fun i => if i = j then v else aU s k i), wf_withU hw u0 u1 u2, hc.sh hw hk (fun b hb => ⟨fun _ => rfl, fun _ => rfl, AI_nf (fun q => hb (Or.inr (Or.inl (by omega))))⟩) c0 c1 (fun i hi => ?_), hr.sh hk (Mu.num R _ (by omega) (by omega)) ((AI_na (by decide)).trans d0) ((AI_na (by decide)).trans d1) (fun i hi => ?_)⟩
          · show AI (sAI M (74 + k + 4) j v) (78 + k) i = if i = j then v else aU s k i
            rw [show 74 + k + 4 = 78 + k by omega]
            by_cases e : i = j
            · rw [if_pos e, e, AI_s]
            · rw [if_neg e, AI_n e]; exact c2 i hi
          · show _ = if i = j then v else aU s k i
            by_cases e : i = j
            · rw [if_pos e, e, AI_s]
            · rw [if_neg e, AI_n (by omega)]; exact d2 i hi
        rw [has_c u1 c1 (by omega), bind_some_, decide_eq_true hj, if_pos rfl, lk_1, pk_sub (show 1 ≤ aZ s k by omega), show f_X6_in (nI j) 0 (nI (aZ s k - 1)) R = some true from in_yes (by omega) (by omega) R, bind_some_, if_pos rfl]
        unfold f_X1_write b_X1_write_0
        rw [has_c u1 c1 (by omega), bind_some_, decide_eq_true hj, if_pos rfl, c0]
        by_cases o0 : aO s k = 0
        · rw [if_pos o0, if_pos o0]
          exact fin _
        · rw [if_neg o0, if_neg o0]
          by_cases o1 : aO s k = 1
          · rw [if_pos (show aO s k = nI 1 from o1), if_pos (show aO s k = 1 from o1)]
            exact fin _
          · rw [if_neg (show ¬ aO s k = nI 1 from o1), if_neg (show ¬ aO s k = 1 from o1)]
            exact fin _
      · rw [has_no c1 hb, bind_some_, if_neg Bool.false_ne_true]
        refine ⟨-12, M, R, rfl, ?_, bad⟩
        have e : f_X6_in x2 0 (nI (aZ s k) - 1) R = some false := by
          by_cases z0 : aZ s k = 0
          · rw [z0, in_r]
            refine congrArg some (decide_eq_false fun z => ?_)
            have z1 := z.1
            have z2 := z.2
            rw [Int32.lt_iff_toInt_lt] at z1 z2
            have a1 : (nI 0 - 1 : Int32).toInt = -1 := by decide
            have a2 : (0 : Int32).toInt = 0 := by decide
            omega
          · rw [lk_1, pk_sub (by omega)]
            exact in_no (by omega) (by rw [show aZ s k - 1 + 1 = aZ s k by omega]; exact hb) R
        rw [e, bind_some_, if_neg Bool.false_ne_true]
  · rw [sref_no e1, bind_some_, if_neg (show ¬ (-2 : Int32) = 0 by decide), e2, bind_some_, if_neg Bool.false_ne_true]
    exact ⟨_, M, R, rfl, rfl, bad⟩
def isAt (K v : Nat) : Option Bool := if nI v = 0 then some true else (if nI v = 1 then (if nI K = (1 : Int32) then some true else (if nI K = (3 : Int32) then some true else some false)) else (if nI v = 2 then (if nI K = (2 : Int32) then some true else (if nI K = (4 : Int32) then some true else some false)) else (if nI K = nI v then some true else some false)))
theorem isAt_some (K v : Nat) : ∃ b, isAt K v = some b := by
  unfold isAt
  (repeat' split) <;> exact ⟨_, rfl⟩
theorem isA_tab (R : Mem) : ∀ K, K < 6 → ∀ v, v < 6 → f_X6_isUnder (nI K) (nI v) R = isAt K v := by
  unfold f_X6_isUnder b_X6_isUnder_0 b_X6_isUnder_19
  decide +kernel
theorem st_taken {M R : Mem} (x1 x2 : Int32) (h : Sim M R) : ∃ r, f_X5_taken x1 x2 M = some r ∧ f_X6_taken x1 x2 R = some r := by
  obtain ⟨s, hw, hc, hr⟩ := h
  have hc6 : dC (aV s) ≤ 6 := hw.1.1
  unfold f_X5_taken b_X5_taken_0 f_X6_taken b_X6_taken_0
  by_cases q1 : x2 < 0
  · rw [if_pos q1, in_r, decide_eq_false (fun z => z.1 q1), bind_some_, if_neg Bool.false_ne_true]
    exact ⟨_, rfl, rfl⟩
  by_cases q2 : x2 ≤ (6 : Int32)
  · rw [if_neg q1, if_pos q2, in_r, decide_eq_true ⟨q1, Int32.not_lt.mpr q2⟩, bind_some_, if_pos rfl]
    obtain ⟨v, hv, rfl⟩ := nn_ex q1
    have hv6 : v ≤ 6 := by
      rw [lk_6, leI hv (by decide)] at q2
      exact q2
    rcases rg_b x1 12 (by decide) with ⟨i, hi, rfl⟩ | hb
    · rw [if_neg (nI_pos (by omega)), if_pos (show nI i < (12 : Int32) from nI_lt (b := 12) hi (by decide)), show f_X6_in (nI i) 0 11 R = some true from in_yes (n := 11) (by decide) (by omega) R, bind_some_, if_pos rfl, show FI R 100 0 = _ from hr.1.2.2.2.1, show nI i - nI i / (6 : Int32) * (6 : Int32) = nI (i % 6) from remI (d := 6) (by omega) (by decide) (by decide), itLt (by omega) (by omega)]
      unfold b_X5_taken_37 b_X5_taken_54
      by_cases h6 : i < 6
      · rw [if_pos (show nI i < (6 : Int32) from nI_lt (b := 6) h6 (by decide)), if_pos (show (0 : Int32) = 0 from rfl), numbered_w (by decide) (by decide) hc6 hc.1.2.2.2.1, bind_some_, show i % 6 = i from Nat.mod_eq_of_lt h6]
        by_cases hp : i < dC (aV s)
        · have ki := slx_kd (wi := 1) (q := i) (by decide) (by decide) (by omega)
          rw [if_pos hp, if_pos ⟨nI_pos (by omega), nI_lt hp (by omega)⟩, oc_some_, if_pos (show (0 : Int32) = 0 from rfl), if_pos (show nI i < (6 : Int32) from nI_lt (b := 6) h6 (by decide)), nI_clamp (by omega), gd_t (isK_t ki), gdn (n := len 101) (show i < 6 from h6) (by decide), show AI R 101 i = _ from (hr.1.2.2.2.2 i hp).1]
          by_cases v6 : v = 6
          · subst v6
            rw [if_pos (show (6 : Int32) ≤ nI 6 by decide), if_pos (show (6 : Int32) ≤ nI 6 by decide)]
            exact ⟨_, rfl, rfl⟩
          · have e : f_X2_isA (slx 1 i) (nI v) M = isAt (kK (dS (aV s) i)) v := by
              unfold f_X2_isA b_X2_isA_0
              rw [show FI M (slx 1 i) 0 = _ from (hc.1.2.2.2.2 i hp).1]
              rfl
            rw [if_neg (show ¬ (6 : Int32) ≤ nI v from nI_ge (b := 6) (by omega) (by decide)), if_neg (show ¬ (6 : Int32) ≤ nI v from nI_ge (b := 6) (by omega) (by decide)), e, isA_tab R _ (hw.1.2.1 i hp).1 v (by omega)]
            obtain ⟨b, hb⟩ := isAt_some (kK (dS (aV s) i)) v
            rw [hb, bind_some_]
            split <;> exact ⟨_, rfl, rfl⟩
        · rw [if_neg hp, if_neg (fun z => hp ((nI_ltI (by omega) (by omega)).mp z.2)), oc_none_]
          exact ⟨_, rfl, rfl⟩
      · rw [if_neg (show ¬ nI i < (6 : Int32) from nI_nlt (b := 6) (by omega) (by omega)), if_neg (show ¬ (1 : Int32) = 0 by decide), show nI i - (6 : Int32) = nI (i - 6) from pk_sub (b := 6) (by omega), numbered_w (by decide) (by decide) hc6 hc.1.2.2.2.1, bind_some_, show i % 6 = i - 6 by omega]
        by_cases hp : i - 6 < dC (aV s)
        · have ki := slx_kd (wi := 1) (q := i - 6) (by decide) (by decide) (by omega)
          rw [if_pos hp, if_pos ⟨nI_pos (by omega), nI_lt hp (by omega)⟩, oc_some_, if_neg (show ¬ (1 : Int32) = 0 by decide), if_neg (show ¬ nI i < (6 : Int32) from nI_nlt (b := 6) (by omega) (by omega)), nI_clamp (by omega), gd_t (isK_t ki), show (5 : Int32) * nI (i - 6) + (4 : Int32) = nI (5 * (i - 6) + 4) by rw [show (5 : Int32) * nI (i - 6) = nI (5 * (i - 6)) from pk_mul 5 _]; exact nI_add _ 4, gdn (n := len 103) (show 5 * (i - 6) + 4 < 30 by omega) (by decide), nI_clamp (by omega), show AI R 103 (5 * (i - 6) + 4) = _ from (hr.1.2.2.2.2 _ hp).2.2.2.2.2.2.1, show FI M (slx 1 (i - 6)) 6 = _ from (hc.1.2.2.2.2 _ hp).2.2.2.2.2.2.1]
          split <;> exact ⟨_, rfl, rfl⟩
        · rw [if_neg hp, if_neg (fun z => hp ((nI_ltI (by omega) (by omega)).mp z.2)), oc_none_]
          exact ⟨_, rfl, rfl⟩
    · rw [show f_X6_in x1 0 11 R = some false from in_no (n := 11) (by decide) hb R, bind_some_, if_neg Bool.false_ne_true]
      refine ⟨-12, ?_, rfl⟩
      by_cases q : x1 < 0
      · rw [if_pos q]
      · rw [if_neg q, if_neg (show ¬ x1 < (12 : Int32) from fun z => hb ⟨q, z⟩)]
  · rw [if_neg q1, if_neg q2, in_r, decide_eq_false (fun z => z.2 (Int32.not_le.mp q2)), bind_some_, if_neg Bool.false_ne_true]
    exact ⟨_, rfl, rfl⟩
