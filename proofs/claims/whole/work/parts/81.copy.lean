/-! L2: copy, sleepersBy -/
theorem hasRun_c {M : Mem} {a z : Nat} (h : FI M a 1 = nI z) (x y : Int32) : f_X1_hasRun a x y M = some (decide (¬ x < 0 ∧ ¬ y < 0 ∧ ¬ nI z < x ∧ ¬ nI z - x < y)) := by
  unfold f_X1_hasRun b_X1_hasRun_0
  rw [h]
  by_cases h1 : x < 0
  · rw [if_pos h1, decide_eq_false (fun z => z.1 h1)]
  by_cases h2 : y < 0
  · rw [if_neg h1, if_pos h2, decide_eq_false (fun z => z.2.1 h2)]
  by_cases h3 : nI z < x
  · rw [if_neg h1, if_neg h2, if_pos h3, decide_eq_false (fun z => z.2.2.1 h3)]
  by_cases h4 : nI z - x < y
  · rw [if_neg h1, if_neg h2, if_neg h3, if_pos h4, decide_eq_false (fun z => z.2.2.2 h4)]
  · rw [if_neg h1, if_neg h2, if_neg h3, if_neg h4, decide_eq_true ⟨h1, h2, h3, h4⟩]
/-- n places from b on are as they were from a on -/
def mvF (f : Nat → Int32) (a b n : Nat) : Nat → Int32 := fun q => if b ≤ q ∧ q < b + n then f (a + (q - b)) else f q
theorem up_loop {N : Nat} {R0 : Mem} {x1 x2 x3 x4 : Int32} {a b n : Nat} (ha : a + n ≤ 160) (hb : b + n ≤ 160) (hba : b ≤ a) : ∀ (m fu t : Nat), m < fu → t + m = n → b_X6_copy_147 N x1 x2 x3 x4 (nI n) fu (nI a) (nI b) (nI t) (rAI R0 113 (mvF (AI R0 113) a b t)) = some (nI n, rAI R0 113 (mvF (AI R0 113) a b n)) := by
  intro m
  induction m with
  | zero =>
    intro fu t hf ht
    obtain ⟨fu, rfl⟩ : ∃ z, fu = z + 1 := ⟨fu - 1, by omega⟩
    have : t = n := by omega
    subst this
    rw [b_X6_copy_147, if_pos (nI_le (by omega) (by omega))]
  | succ m ih =>
    intro fu t hf ht
    obtain ⟨fu, rfl⟩ : ∃ z, fu = z + 1 := ⟨fu - 1, by omega⟩
    rw [b_X6_copy_147, if_neg (nI_ge (by omega) (by omega)), if_pos (nI_le hba (by omega))]
    unfold b_X6_copy_173 b_X6_copy_195
    rw [nI_add, nI_add, gdn (n := len 113) (show a + t < 160 by omega) (by decide), gdn (n := len 113) (show b + t < 160 by omega) (by decide), nI_clamp (show a + t < 2 ^ 31 by omega), nI_clamp (show b + t < 2 ^ 31 by omega), sAI_rAI, AI_rAI_s, nI_1]
    have e : upd (mvF (AI R0 113) a b t) (b + t) (mvF (AI R0 113) a b t (a + t)) = mvF (AI R0 113) a b (t + 1) := by
      funext q
      show (if q = b + t then _ else _) = _
      by_cases e : q = b + t
      · rw [if_pos e, e]
        unfold mvF
        rw [if_neg (by omega), if_pos (by omega), show a + (b + t - b) = a + t by omega]
      · rw [if_neg e]
        unfold mvF
        by_cases e2 : b ≤ q ∧ q < b + t
        · rw [if_pos e2, if_pos (by omega)]
        · rw [if_neg e2, if_neg (by omega)]
    rw [e]
    exact ih fu (t + 1) (by omega) (by omega)
def mvD (f : Nat → Int32) (a b n t : Nat) : Nat → Int32 := fun q => if b + n ≤ q + t ∧ q < b + n then f (a + (q - b)) else f q
theorem dn_loop {N : Nat} {R0 : Mem} {x1 x2 x3 x4 : Int32} {a b n : Nat} (ha : a + n ≤ 160) (hb : b + n ≤ 160) (hab : a < b) : ∀ (m fu t : Nat), m < fu → t + m = n → b_X6_copy_147 N x1 x2 x3 x4 (nI n) fu (nI a) (nI b) (nI t) (rAI R0 113 (mvD (AI R0 113) a b n t)) = some (nI n, rAI R0 113 (mvD (AI R0 113) a b n n)) := by
  intro m
  induction m with
  | zero =>
    intro fu t hf ht
    obtain ⟨fu, rfl⟩ : ∃ z, fu = z + 1 := ⟨fu - 1, by omega⟩
    have : t = n := by omega
    subst this
    rw [b_X6_copy_147, if_pos (nI_le (by omega) (by omega))]
  | succ m ih =>
    intro fu t hf ht
    obtain ⟨fu, rfl⟩ : ∃ z, fu = z + 1 := ⟨fu - 1, by omega⟩
    rw [b_X6_copy_147, if_neg (nI_ge (by omega) (by omega)), if_neg (nI_ge hab (by omega)), show nI n - (1 : Int32) - nI t = nI (n - 1 - t) by rw [lk_1, pk_sub (by omega), pk_sub (by omega)]]
    unfold b_X6_copy_173 b_X6_copy_195
    rw [nI_add, nI_add, gdn (n := len 113) (show a + (n - 1 - t) < 160 by omega) (by decide), gdn (n := len 113) (show b + (n - 1 - t) < 160 by omega) (by decide), nI_clamp (show a + (n - 1 - t) < 2 ^ 31 by omega), nI_clamp (show b + (n - 1 - t) < 2 ^ 31 by omega), sAI_rAI, AI_rAI_s, nI_1]
    have e : upd (mvD (AI R0 113) a b n t) (b + (n - 1 - t)) (mvD (AI R0 113) a b n t (a + (n - 1 - t))) = mvD (AI R0 113) a b n (t + 1) := by
      funext q
      show (if q = b + (n - 1 - t) then _ else _) = _
      by_cases e : q = b + (n - 1 - t)
      · rw [if_pos e, e]
        unfold mvD
        rw [if_neg (by omega), if_pos (by omega), show a + (b + (n - 1 - t) - b) = a + (n - 1 - t) by omega]
      · rw [if_neg e]
        unfold mvD
        by_cases e2 : b + n ≤ q + t ∧ q < b + n
        · rw [if_pos e2, if_pos (by omega)]
        · rw [if_neg e2, if_neg (by omega)]
    rw [e]
    exact ih fu (t + 1) (by omega) (by omega)
theorem copy_r {N : Nat} {R : Mem} {x1 x2 x3 x4 : Int32} {a b n : Nat} (hN : 160 < N) (ha : a + n ≤ 160) (hb : b + n ≤ 160) : b_X6_copy_147 N x1 x2 x3 x4 (nI n) N (nI a) (nI b) 0 R = some (nI n, rAI R 113 (mvF (AI R 113) a b n)) := by
  have h0 : mvF (AI R 113) a b 0 = AI R 113 := by
    funext q
    unfold mvF
    rw [if_neg (by omega)]
  by_cases hba : b ≤ a
  · have h := up_loop (N := N) (R0 := R) (x1 := x1) (x2 := x2) (x3 := x3) (x4 := x4) ha hb hba n N 0 (by omega) (by omega)
    rw [h0, rAI_self] at h
    exact h
  · have h := dn_loop (N := N) (R0 := R) (x1 := x1) (x2 := x2) (x3 := x3) (x4 := x4) ha hb (by omega) n N 0 (by omega) (by omega)
    have h1 : mvD (AI R 113) a b n 0 = AI R 113 := by
      funext q
      unfold mvD
      rw [if_neg (by omega)]
    have h2 : mvD (AI R 113) a b n n = mvF (AI R 113) a b n := by
      funext q
      unfold mvD mvF
      by_cases e : b ≤ q ∧ q < b + n
      · rw [if_pos e, if_pos (by omega)]
      · rw [if_neg e, if_neg (by omega)]
    rw [h1, rAI_self, h2] at h
    exact h
theorem sub_le {z i n : Nat} (hi : i ≤ z) (hz : z < 2 ^ 30) (hn : n < 2 ^ 31) : (nI z - nI i < nI n) = (z - i < n) := by
  rw [pk_sub hi, ltI (by omega) hn]
theorem st_copy {N : Nat} {M R : Mem} (hN : 160 < N) (x1 x2 x3 x4 x5 : Int32) (h : Sim M R) : ∃ r M' R', f_X5_copy x1 x2 x3 x4 x5 M = some (r, M') ∧ f_X6_copy N x1 x2 x3 x4 x5 R = some (r, R') ∧ Sim M' R' := by
  obtain ⟨s, hw, hc, hr⟩ := h
  have bad : Sim M R := ⟨s, hw, hc, hr⟩
  unfold f_X5_copy b_X5_copy_0 f_X6_copy b_X6_copy_0
  rcases sheet_b x1 M R with ⟨k, hk, rfl, e1, e2⟩ | ⟨e1, e2⟩
  rotate_left
  · rw [e1, e2, bind_some_, bind_some_, if_neg Bool.false_ne_true, if_neg Bool.false_ne_true]
    exact ⟨_, M, R, rfl, rfl, bad⟩
  rw [e1, e2, bind_some_, bind_some_, if_pos rfl, if_pos rfl]
  rcases sheet_b x3 M R with ⟨o, ho, rfl, f1, f2⟩ | ⟨f1, f2⟩
  rotate_left
  · rw [f1, f2, bind_some_, bind_some_, if_neg Bool.false_ne_true, if_neg Bool.false_ne_true]
    exact ⟨_, M, R, rfl, rfl, bad⟩
  rw [f1, f2, bind_some_, bind_some_, if_pos rfl, if_pos rfl]
  obtain ⟨c0, c1, c2⟩ := hc.2.2.2.2.2.2.2 k hk
  obtain ⟨d0, d1, d2⟩ := hr.2.2.2.2.2.2.2.1 k hk
  obtain ⟨u0, u1, u2⟩ := hw.2.2.2.2 k hk
  obtain ⟨c0', c1', c2'⟩ := hc.2.2.2.2.2.2.2 o ho
  obtain ⟨d0', d1', d2'⟩ := hr.2.2.2.2.2.2.2.1 o ho
  obtain ⟨u0', u1', u2'⟩ := hw.2.2.2.2 o ho
  have kk : (nI k).toNatClampNeg = k := nI_clamp (by omega)
  have ko : (nI o).toNatClampNeg = o := nI_clamp (by omega)
  have i1 : ∀ {α : Type} (j : Nat) (x : Option α), j < 4 → gd (inb (nI j) (len 111)) x = x := fun j x hj => gd_t (inb_nI (n := 4) hj (by decide))
  have i2 : ∀ {α : Type} (j : Nat) (x : Option α), j < 4 → gd (inb (nI j) (len 112)) x = x := fun j x hj => gd_t (inb_nI (n := 4) hj (by decide))
  have i3 : ∀ {α : Type} (j : Nat) (x : Option α), j < 4 → gd (inb (nI j) (len 73)) x = x := fun j x hj => gd_t (i73 hj)
  simp only [i1 k _ hk, i1 o _ ho, i2 k _ hk, i2 o _ ho, i3 k _ hk, i3 o _ ho, kk, ko, ar73]
  rw [gd_t (isK_t (kd1 hk)), gd_t (isK_t (kd1 ho)), c0, c0', d0, d0', d1, d1']
  by_cases m1 : aO s k = -1
  · rw [if_pos m1, if_pos m1]
    exact ⟨_, M, R, rfl, rfl, bad⟩
  rw [if_neg m1, if_neg m1]
  by_cases m2 : aO s o = -1
  · rw [if_pos m2, if_pos m2]
    exact ⟨_, M, R, rfl, rfl, bad⟩
  rw [if_neg m2, if_neg m2]
  by_cases m3 : aO s k = aO s o
  rotate_left
  · rw [if_neg m3, if_neg m3]
    exact ⟨_, M, R, rfl, rfl, bad⟩
  rw [if_pos m3, if_pos m3, hasRun_c c1, bind_some_, hasRun_c c1', bind_some_]
  by_cases G : (¬ x2 < 0 ∧ ¬ x5 < 0 ∧ ¬ nI (aZ s k) < x2 ∧ ¬ nI (aZ s k) - x2 < x5) ∧ (¬ x4 < 0 ∧ ¬ x5 < 0 ∧ ¬ nI (aZ s o) < x4 ∧ ¬ nI (aZ s o) - x4 < x5)
  · obtain ⟨G1, G2⟩ := G
    rw [decide_eq_true G1, if_pos rfl, decide_eq_true G2, if_pos rfl, if_neg G1.2.1, if_neg G1.1, if_neg G2.1, if_neg G1.2.2.1, if_neg G2.2.2.1, if_neg G1.2.2.2, if_pos (Int32.not_lt.mp G2.2.2.2)]
    obtain ⟨i, hi, rfl⟩ := nn_ex G1.1
    obtain ⟨n, hn, rfl⟩ := nn_ex G1.2.1
    obtain ⟨j, hj, rfl⟩ := nn_ex G2.1
    have g1 : i ≤ aZ s k := by
      have z := G1.2.2.1
      rw [ltI (by omega) hi] at z
      omega
    have g2 : n ≤ aZ s k - i := by
      have z := G1.2.2.2
      rw [sub_le g1 (by omega) hn] at z
      omega
    have g3 : j ≤ aZ s o := by
      have z := G2.2.2.1
      rw [ltI (by omega) hj] at z
      omega
    have g4 : n ≤ aZ s o - j := by
      have z := G2.2.2.2
      rw [sub_le g3 (by omega) hn] at z
      omega
    rw [nI_clamp hi, nI_clamp hn, nI_clamp hj, gd_t (by
      rw [n_1_2 (kd1 hk), n_1_2 (kd1 ho), decide_eq_true (nI_pos' hi), decide_eq_true (nI_pos' hj), decide_eq_true (nI_pos' hn), decide_eq_true (show i + n ≤ 40 by omega), decide_eq_true (show j + n ≤ 40 by omega)]
      rfl), show (40 : Int32) * nI k + nI i = nI (40 * k + i) by rw [show (40 : Int32) * nI k = nI (40 * k) from pk_mul 40 k, nI_add], show (40 : Int32) * nI o + nI j = nI (40 * o + j) by rw [show (40 : Int32) * nI o = nI (40 * o) from pk_mul 40 o, nI_add], copy_r hN (by omega) (by omega)]
    refine ⟨_, _, _, rfl, rfl, withU s o (aO s o) (aZ s o) (fun q => if j ≤ q ∧ q < j + n then aU s k (i + (q - j)) else aU s o q), wf_withU hw u0' u1' u2', hc.sh hw ho (fun b hb => ⟨fun _ => rfl, fun _ => rfl, AI_rAI_n _ _ (fun q => hb (Or.inr (Or.inl (by omega))))⟩) c0' c1' (fun q hq => ?_), hr.sh ho ⟨fun _ => rfl, fun _ => rfl, fun b hb => AI_rAI_n _ _ (by omega), fun q _ => ⟨by rw [AI_rAI_n _ _ (by decide)], by rw [AI_rAI_n _ _ (by decide)]⟩, fun q hq => ?_⟩ (by rw [AI_rAI_n _ _ (by decide)]; exact d0') (by rw [AI_rAI_n _ _ (by decide)]; exact d1') (fun q hq => ?_)⟩
    · show AI (rAI M (74 + o + 4) _) (78 + o) q = if j ≤ q ∧ q < j + n then aU s k (i + (q - j)) else aU s o q
      rw [show 74 + o + 4 = 78 + o by omega, AI_rAI_s, show 74 + k + 4 = 78 + k by omega]
      by_cases e : j ≤ q ∧ q < j + n
      · rw [if_pos e, pk_cpy_in e.1 e.2, c2 _ (by omega)]
      · rw [if_neg e, pk_cpy_out (by omega), c2' _ hq]
    · rw [AI_rAI_s]
      unfold mvF
      rw [if_neg (by omega)]
    · rw [AI_rAI_s]
      unfold mvF
      show _ = if j ≤ q ∧ q < j + n then aU s k (i + (q - j)) else aU s o q
      by_cases e : j ≤ q ∧ q < j + n
      · rw [if_pos e, if_pos (by omega), show 40 * k + i + (40 * o + q - (40 * o + j)) = 40 * k + (i + (q - j)) by omega, d2 _ (by omega)]
      · rw [if_neg e, if_neg (by omega), d2' _ hq]
  · refine ⟨-12, M, R, ?_, ?_, bad⟩
    · by_cases G1 : (¬ x2 < 0 ∧ ¬ x5 < 0 ∧ ¬ nI (aZ s k) < x2 ∧ ¬ nI (aZ s k) - x2 < x5)
      · rw [decide_eq_true G1, if_pos rfl, decide_eq_false (fun z => G ⟨G1, z⟩), if_neg Bool.false_ne_true]
      · rw [decide_eq_false G1, if_neg Bool.false_ne_true]
    · by_cases t1 : x5 < 0
      · rw [if_pos t1]
      rw [if_neg t1]
      by_cases t2 : x2 < 0
      · rw [if_pos t2]
      rw [if_neg t2]
      by_cases t3 : x4 < 0
      · rw [if_pos t3]
      rw [if_neg t3]
      by_cases t4 : nI (aZ s k) < x2
      · rw [if_pos t4]
      rw [if_neg t4]
      by_cases t5 : nI (aZ s o) < x4
      · rw [if_pos t5]
      rw [if_neg t5]
      by_cases t6 : nI (aZ s k) - x2 < x5
      · rw [if_pos t6]
      rw [if_neg t6]
      by_cases t7 : x5 ≤ nI (aZ s o) - x4
      · exact absurd ⟨⟨t2, t1, t4, t6⟩, t3, t1, t5, Int32.not_lt.mpr t7⟩ G
      · rw [if_neg t7]
theorem by_step {M R : Mem} {k t : Nat} {x3 : Int32} (hk : k < 4) (ht : t < 6) (h : Sim M R) :
    (∃ (v1 v2 : Int32) (i : Nat), x3 = nI i ∧ f_X1_has (74 + k) x3 M = some true ∧ f_X1_has (74 + k) (x3 + (2 : Int32) * nI t + (1 : Int32)) M = some true ∧ f_X1_read (74 + k) (x3 + (2 : Int32) * nI t) M = some v1 ∧ f_X1_read (74 + k) (x3 + (2 : Int32) * nI t + (1 : Int32)) M = some v2 ∧ ¬ x3 < 0 ∧ ¬ x3 + (2 : Int32) * nI t < x3 ∧ x3 + (2 : Int32) * nI t ≤ AI R 112 k - (2 : Int32) ∧ x3 + (2 : Int32) * nI t = nI (i + 2 * t) ∧ i + 2 * t + 1 < 40 ∧ AI R 113 (40 * k + (i + 2 * t)) = v1 ∧ AI R 113 (40 * k + (i + 2 * t) + 1) = v2) ∨
    ((f_X1_has (74 + k) x3 M = some false ∨ (f_X1_has (74 + k) x3 M = some true ∧ f_X1_has (74 + k) (x3 + (2 : Int32) * nI t + (1 : Int32)) M = some false)) ∧ (¬ x3 < 0 → ¬ x3 + (2 : Int32) * nI t < x3 → ¬ x3 + (2 : Int32) * nI t ≤ AI R 112 k - (2 : Int32))) := by
  obtain ⟨s, hw, hc, hr⟩ := h
  obtain ⟨c0, c1, c2⟩ := hc.2.2.2.2.2.2.2 k hk
  obtain ⟨d0, d1, d2⟩ := hr.2.2.2.2.2.2.2.1 k hk
  obtain ⟨u0, u1, u2⟩ := hw.2.2.2.2 k hk
  have e2 : (2 : Int32) * nI t = nI (2 * t) := pk_mul 2 t
  rw [e2, d1]
  have hz2 : (nI (aZ s k) - (2 : Int32)).toInt = (aZ s k : Int) - 2 := pk_sub_toInt (b := 2) (by omega) (by decide)
  rcases rg_b x3 (aZ s k) (by omega) with ⟨i, hi, rfl⟩ | hb
  · rw [nI_add, nI_1, has_c u1 c1 (by omega), has_c u1 c1 (by omega), decide_eq_true hi]
    by_cases q : i + 2 * t + 1 < aZ s k
    · left
      refine ⟨aU s k (i + 2 * t), aU s k (i + 2 * t + 1), i, rfl, rfl, by rw [decide_eq_true q], read_c hk u1 c1 c2 (by omega), read_c hk u1 c1 c2 (by omega), nI_pos (by omega), nI_nlt (by omega) (by omega), ?_, rfl, by omega, d2 _ (by omega), d2 (i + 2 * t + 1) (by omega)⟩
      rw [Int32.le_iff_toInt_le, hz2, nI_toInt (by omega)]
      omega
    · right
      refine ⟨Or.inr ⟨rfl, by rw [decide_eq_false q]⟩, fun _ _ z => ?_⟩
      rw [Int32.le_iff_toInt_le, hz2, nI_toInt (by omega)] at z
      omega
  · right
    refine ⟨Or.inl (has_no c1 hb), fun h1 h2 z => ?_⟩
    obtain ⟨i, hi, rfl⟩ := nn_ex h1
    have hi2 : aZ s k ≤ i := by
      by_cases q : aZ s k ≤ i
      · exact q
      · exact absurd (show ¬ nI i < 0 ∧ nI i < nI (aZ s k) from ⟨nI_pos hi, nI_lt (by omega) (by omega)⟩) hb
    rw [Int32.le_iff_toInt_le, hz2] at z
    rw [Int32.lt_iff_toInt_lt, nI_toInt hi] at h2
    omega
theorem by_loop {N k n : Nat} {x2 x3 : Int32} (hk : k < 4) (hn : n ≤ 6) : ∀ (m fu t came : Nat) (M R : Mem), m < fu → t + m = n → Sim M R →
    ∃ r M' R', b_X5_sleepersBy_69 N (nI k) x2 x3 (nI n) fu (74 + k) (nI came) (nI t) M = some (r, M') ∧ b_X6_sleepersBy_64 N (nI k) x2 x3 (nI n) fu (nI came) (nI t) R = some (r, R') ∧ Sim M' R' := by
  intro m
  induction m with
  | zero =>
    intro fu t came M R hf ht h
    obtain ⟨fu, rfl⟩ : ∃ z, fu = z + 1 := ⟨fu - 1, by omega⟩
    rw [b_X5_sleepersBy_69, b_X6_sleepersBy_64, if_pos (nI_le (by omega) (by omega)), if_pos (nI_le (by omega) (by omega))]
    exact ⟨_, _, _, rfl, rfl, h⟩
  | succ m ih =>
    intro fu t came M R hf ht h
    obtain ⟨fu, rfl⟩ : ∃ z, fu = z + 1 := ⟨fu - 1, by omega⟩
    rw [b_X5_sleepersBy_69, b_X6_sleepersBy_64, if_neg (nI_ge (by omega) (by omega)), if_neg (nI_ge (by omega) (by omega)), gdn (n := len 112) (show k < 4 from hk) (by decide), nI_clamp (show k < 2 ^ 31 by omega)]
    rcases by_step (x3 := x3) (t := t) hk (by omega) h with ⟨v1, v2, i, hx, p1, p2, p3, p4, p5, p6, p7, p8, p9, p10, p11⟩ | ⟨p1, p2⟩
    · rw [p1, bind_some_, if_pos rfl, p2, bind_some_, if_pos rfl, p3, bind_some_, p4, bind_some_, if_neg p5, if_neg p6, if_pos p7, p8, show (40 : Int32) * nI k + nI (i + 2 * t) = nI (40 * k + (i + 2 * t)) by rw [show (40 : Int32) * nI k = nI (40 * k) from pk_mul 40 k, nI_add], nI_1 (40 * k + (i + 2 * t)), gdn (n := len 113) (show 40 * k + (i + 2 * t) < 160 by omega) (by decide), gdn (n := len 113) (show 40 * k + (i + 2 * t) + 1 < 160 by omega) (by decide), nI_clamp (show 40 * k + (i + 2 * t) < 2 ^ 31 by omega), nI_clamp (show 40 * k + (i + 2 * t) + 1 < 2 ^ 31 by omega), p10, p11]
      obtain ⟨r, M1, R1, a1, a2, a3⟩ := st_sleeper v1 v2 h
      rw [a1, a2, bd2_s, bd2_s]
      unfold b_X5_sleepersBy_138 b_X6_sleepersBy_144
      by_cases q : r < 0
      · rw [if_pos q, if_pos q, nI_1, Int32.add_zero]
        exact ih fu (t + 1) came M1 R1 (by omega) (by omega) a3
      · rw [if_neg q, if_neg q, nI_1, nI_1]
        exact ih fu (t + 1) (came + 1) M1 R1 (by omega) (by omega) a3
    · refine ⟨-12, M, R, ?_, ?_, h⟩
      · rcases p1 with p1 | ⟨p1, p3⟩
        · rw [p1, bind_some_, if_neg Bool.false_ne_true]
        · rw [p1, bind_some_, if_pos rfl, p3, bind_some_, if_neg Bool.false_ne_true]
      · by_cases h1 : x3 < 0
        · rw [if_pos h1]
        · by_cases h2 : x3 + (2 : Int32) * nI t < x3
          · rw [if_neg h1, if_pos h2]
          · rw [if_neg h1, if_neg h2, if_neg (p2 h1 h2)]
theorem st_sleepersBy {N : Nat} {M R : Mem} (hN : 160 < N) (x1 x2 x3 x4 : Int32) (h : Sim M R) : ∃ r M' R', f_X5_sleepersBy N x1 x2 x3 x4 M = some (r, M') ∧ f_X6_sleepersBy N x1 x2 x3 x4 R = some (r, R') ∧ Sim M' R' := by
  obtain ⟨s, hw, hc, hr⟩ := h
  have bad : Sim M R := ⟨s, hw, hc, hr⟩
  unfold f_X5_sleepersBy b_X5_sleepersBy_0 f_X6_sleepersBy b_X6_sleepersBy_0
  rcases sheet_b x1 M R with ⟨k, hk, rfl, e1, e2⟩ | ⟨e1, e2⟩
  rotate_left
  · rw [e1, e2, bind_some_, bind_some_, if_neg Bool.false_ne_true, if_neg Bool.false_ne_true]
    exact ⟨_, M, R, rfl, rfl, bad⟩
  obtain ⟨c0, c1, c2⟩ := hc.2.2.2.2.2.2.2 k hk
  obtain ⟨d0, d1, d2⟩ := hr.2.2.2.2.2.2.2.1 k hk
  have kk : (nI k).toNatClampNeg = k := nI_clamp (by omega)
  rw [e1, e2, bind_some_, bind_some_, if_pos rfl, if_pos rfl, in_r, bind_some_]
  by_cases q1 : x2 < 0
  · rw [if_pos q1, decide_eq_false (fun z => z.1 q1), if_neg Bool.false_ne_true]
    exact ⟨_, M, R, rfl, rfl, bad⟩
  by_cases q2 : (2 : Int32) < x2
  · rw [if_neg q1, if_pos q2, decide_eq_false (fun z => z.2 q2), if_neg Bool.false_ne_true]
    exact ⟨_, M, R, rfl, rfl, bad⟩
  rw [if_neg q1, if_neg q2, decide_eq_true ⟨q1, q2⟩, if_pos rfl, in_r, bind_some_]
  by_cases q3 : x4 < 0
  · rw [if_pos q3, decide_eq_false (fun z => z.1 q3), if_neg Bool.false_ne_true]
    exact ⟨_, M, R, rfl, rfl, bad⟩
  by_cases q4 : x4 ≤ (6 : Int32)
  rotate_left
  · rw [if_neg q3, if_neg q4, decide_eq_false (fun z => z.2 (Int32.not_le.mp q4)), if_neg Bool.false_ne_true]
    exact ⟨_, M, R, rfl, rfl, bad⟩
  have i1 : inb (nI k) (len 111) = true := inb_nI (n := 4) hk (by decide)
  rw [if_neg q3, if_pos q4, decide_eq_true ⟨q3, Int32.not_lt.mpr q4⟩, if_pos rfl, gd_t (i73 hk), gd_t i1, gd_t i1, kk, ar73, gd_t (isK_t (kd1 hk)), c0, d0]
  by_cases m1 : aO s k = -1
  · rw [if_pos m1, if_pos m1]
    exact ⟨_, M, R, rfl, rfl, bad⟩
  rw [if_neg m1, if_neg m1]
  by_cases m2 : aO s k = x2
  rotate_left
  · rw [if_neg m2, if_neg m2]
    exact ⟨_, M, R, rfl, rfl, bad⟩
  rw [if_pos m2, if_pos m2]
  obtain ⟨n, hn, rfl⟩ := nn_ex q3
  have hn6 : n ≤ 6 := by
    rw [lk_6, leI hn (by decide)] at q4
    exact q4
  exact by_loop (N := N) (x2 := x2) (x3 := x3) hk hn6 n N 0 0 M R (by omega) (by omega) bad
