/-! L2: kinds -/
theorem RS.s0 {M : Mem} {a : Nat} {σ : Sl} (h : RS M a σ) (v : Nat) : RS (sFI M a 0 (nI v)) a (mkS v (kM σ) (kC σ) (kW σ) (kN σ) (kT σ) (kL σ) (kS σ)) := by
  obtain ⟨r0, r1, r2, r3, r4, r5, r6, r7, r8⟩ := h
  exact ⟨FI_s, (FI_n (by decide) |>.trans r1), (FI_n (by decide) |>.trans r2), (FI_n (by decide) |>.trans r3), (FI_n (by decide) |>.trans r4), (FI_n (by decide) |>.trans r5), (FI_n (by decide) |>.trans r6), (FI_n (by decide) |>.trans r7), r8⟩
theorem RS.s1 {M : Mem} {a : Nat} {σ : Sl} (h : RS M a σ) (v : Nat) : RS (sFI M a 1 (nI v)) a (mkS (kK σ) v (kC σ) (kW σ) (kN σ) (kT σ) (kL σ) (kS σ)) := by
  obtain ⟨r0, r1, r2, r3, r4, r5, r6, r7, r8⟩ := h
  exact ⟨(FI_n (by decide) |>.trans r0), FI_s, (FI_n (by decide) |>.trans r2), (FI_n (by decide) |>.trans r3), (FI_n (by decide) |>.trans r4), (FI_n (by decide) |>.trans r5), (FI_n (by decide) |>.trans r6), (FI_n (by decide) |>.trans r7), r8⟩
def kdS (σ : Sl) (a b : Nat) : Sl := mkS a b (kC σ) (kW σ) (kN σ) (kT σ) (kL σ) (kS σ)
/-- kind and more of one as told -/
def rest (R : Mem) (p : Nat) (a b : Int32) : Mem := sAI (sAI R 101 p a) 102 p b
theorem AI_rest (R : Mem) (p : Nat) (a b : Int32) (c j : Nat) : AI (rest R p a b) c j = if c = 102 ∧ j = p then b else if c = 101 ∧ j = p then a else AI R c j := rfl
theorem rest_rest (R : Mem) (p : Nat) (a b c d : Int32) : rest (rest R p a b) p c d = rest R p c d := by
  refine mem_ext (fun _ _ => rfl) (fun _ _ => rfl) (fun a' k' => ?_) (fun _ _ => rfl) rfl
  simp only [AI_rest]
  by_cases h1 : a' = 102 ∧ k' = p
  · simp only [if_pos h1]
  · simp only [if_neg h1]
    by_cases h2 : a' = 101 ∧ k' = p
    · simp only [if_pos h2]
    · simp only [if_neg h2]
theorem rest_self (R : Mem) (p : Nat) : rest R p (AI R 101 p) (AI R 102 p) = R := by
  refine mem_ext (fun _ _ => rfl) (fun _ _ => rfl) (fun a' k' => ?_) (fun _ _ => rfl) rfl
  rw [AI_rest]
  by_cases h1 : a' = 102 ∧ k' = p
  · rw [if_pos h1, h1.1, h1.2]
  · rw [if_neg h1]
    by_cases h2 : a' = 101 ∧ k' = p
    · rw [if_pos h2, h2.1, h2.2]
    · rw [if_neg h2]
theorem Rg.rst {R R' : Mem} (h : Rg R R') (p : Nat) (a b : Int32) : Rg (rest R p a b) (rest R' p a b) := by
  refine ⟨h.1, h.2.1, fun c h1 h2 h3 h4 => ?_, fun k hk => ?_⟩
  · funext j
    rw [AI_rest, AI_rest, h.2.2.1 c h1 h2 h3 h4]
  · rw [AI_rest, AI_rest, if_neg (fun q => by cases q.1), if_neg (fun q => by cases q.1), if_neg (fun q => by cases q.1), if_neg (fun q => by cases q.1)]
    exact h.2.2.2 k hk
theorem Mp.rst (R : Mem) (p : Nat) (a b : Int32) : Mp R (rest R p a b) p := (Mp.kind R p a).tr (Mp.more _ p b)
theorem RR.rst {R : Mem} {p : Nat} {σ : Sl} (h : RR R p σ) (a b : Nat) : RR (rest R p (nI a) (nI b)) p (kdS σ a b) := by
  obtain ⟨r0, r1, r2, r3, r4, r5, r6, r7, r8⟩ := h
  have e : ∀ c j, c ≠ 101 → c ≠ 102 → AI (rest R p (nI a) (nI b)) c j = AI R c j := fun c j h1 h2 => by rw [AI_rest, if_neg (fun q => h2 q.1), if_neg (fun q => h1 q.1)]
  refine ⟨?_, ?_, ?_, ?_, ?_, ?_, ?_, ?_, fun k hk => ?_⟩
  · rw [AI_rest, if_neg (fun q => by cases q.1), if_pos ⟨rfl, rfl⟩]; rfl
  · rw [AI_rest, if_pos ⟨rfl, rfl⟩]; rfl
  · rw [e _ _ (by decide) (by decide)]; exact r2
  · rw [e _ _ (by decide) (by decide)]; exact r3
  · rw [e _ _ (by decide) (by decide)]; exact r4
  · rw [e _ _ (by decide) (by decide)]; exact r5
  · rw [e _ _ (by decide) (by decide)]; exact r6
  · rw [e _ _ (by decide) (by decide)]; exact r7
  · rw [e _ _ (by decide) (by decide)]; exact r8 k hk
/-- unlike, one's kind and more being others -/
theorem unlike_k {N k p a b : Nat} {R : Mem} {s : St} {c d : Int32} (hN : 160 < N) (hw : wfSt s) (hr : RrS (rest R p c d) s) (hp : p < dC (aV s)) (hk : k < 4) (ha : a < 6) (hb : b < 10) : ∃ R', f_X6_unlike N (nI k) (nI p) (rest R p (nI a) (nI b)) = some (resI (foN (aT s (dL (aV s))) (dW (aV s)) (aU s k) (aZ s k) 0 (dN (aV s)) (kdS (dS (aV s) p) a b)), R') ∧ RrS (rest R' p c d) s := by
  have e : rest R p (nI a) (nI b) = rest (rest R p c d) p (nI a) (nI b) := (rest_rest _ _ _ _ _ _).symm
  have hwf := hw.1.2.1 p hp
  have hwf' : wfS (kdS (dS (aV s) p) a b) := ⟨ha, hb, hwf.2.2.1, hwf.2.2.2.1, hwf.2.2.2.2.1, hwf.2.2.2.2.2.1, hwf.2.2.2.2.2.2.1, hwf.2.2.2.2.2.2.2.1, hwf.2.2.2.2.2.2.2.2⟩
  have mp : Mp (rest R p c d) (rest R p (nI a) (nI b)) p := by rw [e]; exact Mp.rst _ _ _ _
  have rr : RR (rest R p (nI a) (nI b)) p (kdS (dS (aV s) p) a b) := by rw [e]; exact (hr.1.2.2.2.2 p hp).rst a b
  obtain ⟨d0, d1, d2⟩ := hr.2.2.2.2.2.2.2.1 k hk
  obtain ⟨R', a1, a2⟩ := unlike_g (N := N) (u := aU s k) (z := aZ s k) (σf := setF (dS (aV s)) p (kdS (dS (aV s) p) a b)) hN hw.1.1 hp hk (hw.2.2.2.2 k hk).2.1 hw.1.2.2.2 hw.2.1.2.1 hw.2.1.2.2 hw.1.2.2.1 (wf_setF hw.1.2.1 hwf') (fun i hi => (hr.2.2.1 i hi).mp mp) (WR.mp hr.1 hw.1.2.1 mp rr) (by rw [mp.2.2.1 112 (by omega)]; exact d1) (fun i hi => by rw [mp.2.2.1 113 (by omega)]; exact d2 i hi)
  rw [setF_s] at a1
  refine ⟨R', a1, ?_⟩
  have h2 := a2.rst p c d
  rw [rest_rest] at h2
  exact hr.rg hw h2
theorem kinds0_loop {N k p : Nat} {s : St} (hN : 160 < N) (hw : wfSt s) (hk : k < 4) (hp : p < dC (aV s)) : ∀ (m fu v : Nat) (acc : Int32) (M R : Mem), m < fu → v + m = 6 → RcS M s → RrS (rest R p (nI (kK (dS (aV s) p))) (nI (kM (dS (aV s) p)))) s →
    ∃ r M' R', b_X5_kinds_47 N (nI k) (nI p) (0 : Int32) fu acc (6 : Int32) (nI v) M = some (r, M') ∧ b_X6_kinds_50 N (nI k) (nI p) (0 : Int32) fu (nI (kK (dS (aV s) p))) (nI (kM (dS (aV s) p))) acc (nI v) R = some (r, R') ∧ RcS M' s ∧ RrS R' s := by
  intro m
  have hc6 : dC (aV s) ≤ 6 := hw.1.1
  have hz := (hw.2.2.2.2 k hk).2.1
  have hwf := hw.1.2.1 p hp
  have kp : (nI p).toNatClampNeg = p := nI_clamp (by omega)
  have j1 : inb (nI p) (len 101) = true := inb_nI (n := 6) (by omega) (by decide)
  have j2 : inb (nI p) (len 102) = true := inb_nI (n := 6) (by omega) (by decide)
  induction m with
  | zero =>
    intro fu v acc M R hf hv hc hr
    obtain ⟨fu, rfl⟩ : ∃ z, fu = z + 1 := ⟨fu - 1, by omega⟩
    have : v = 6 := by omega
    subst this
    rw [b_X5_kinds_47, b_X6_kinds_50, if_pos (show (6 : Int32) ≤ nI 6 by decide), if_pos (show (0 : Int32) = 0 from rfl)]
    unfold b_X6_kinds_63 b_X6_kinds_138
    rw [if_pos (show (6 : Int32) ≤ nI 6 by decide), gd_t j1, gd_t j2, kp]
    exact ⟨_, _, _, rfl, rfl, hc, hr⟩
  | succ m ih =>
    intro fu v acc M R hf hv hc hr
    obtain ⟨fu, rfl⟩ : ∃ z, fu = z + 1 := ⟨fu - 1, by omega⟩
    obtain ⟨M1, a1, a2, a3⟩ := begin_s hw hc hp
    have hwf' : wfS (kdS (dS (aV s) p) v (kM (dS (aV s) p))) := ⟨show v < 6 by omega, hwf.2.1, hwf.2.2.1, hwf.2.2.2.1, hwf.2.2.2.2.1, hwf.2.2.2.2.2.1, hwf.2.2.2.2.2.2.1, hwf.2.2.2.2.2.2.2.1, hwf.2.2.2.2.2.2.2.2⟩
    obtain ⟨M2, b1, b2⟩ := fo_c (N := N) (M := sFI M1 4 0 (nI v)) hN hw hk hw.1.2.2.2 (ghost_fi hw a3 0 (nI v)) (a2.s0 v) hwf'
    obtain ⟨R', c1, c2⟩ := unlike_k (N := N) (a := v) (b := kM (dS (aV s) p)) hN hw hr hp hk (by omega) hwf.2.1
    rw [b_X5_kinds_47, b_X6_kinds_50, if_neg (show ¬ (6 : Int32) ≤ nI v from nI_ge (b := 6) (by omega) (by decide)), a1, bd2_s, if_pos (show (0 : Int32) = 0 from rfl), if_pos (show (0 : Int32) = 0 from rfl)]
    unfold b_X5_kinds_73 b_X5_kinds_85 b_X6_kinds_63 b_X6_kinds_82 b_X6_kinds_83 b_X6_kinds_100 b_X6_kinds_101
    rw [if_neg (show ¬ (6 : Int32) ≤ nI v from nI_ge (b := 6) (by omega) (by decide)), if_pos (show (0 : Int32) = 0 from rfl), gd_t j1, if_neg (show ¬ (0 : Int32) = 1 by decide), gd_t j2, kp, gd_t (i73 hk), law_s hw (ghost_fi hw a3 0 (nI v)), bind_some_, nI_clamp (show k < 2 ^ 31 by omega), ar73, gd_t (isK_t (kd1 hk)), gd_t (isK_t (kdt hw hw.1.2.2.2)), show f_X5_firstOtherwise N (74 + k) (46 + dL (aV s)) (sFI M1 4 0 (nI v)) = _ from b1, bd2_s]
    rw [show f_X6_unlike N (nI k) (nI p) (sAI (sAI R 101 p (nI v)) 102 p (nI (kM (dS (aV s) p)))) = _ from c1, bd2_s]
    unfold b_X5_kinds_112 b_X6_kinds_121
    rw [nI_1]
    show ∃ r M' R'', (if resI (foN (aT s (dL (aV s))) (dW (aV s)) (aU s k) (aZ s k) 0 (dN (aV s)) (kdS (dS (aV s) p) v (kM (dS (aV s) p)))) = -1 then _ else _) = some (r, M') ∧ _
    by_cases e : resI (foN (aT s (dL (aV s))) (dW (aV s)) (aU s k) (aZ s k) 0 (dN (aV s)) (kdS (dS (aV s) p) v (kM (dS (aV s) p)))) = -1
    · rw [if_pos e, if_pos e]
      exact ih fu (v + 1) _ M2 R' (by omega) (by omega) b2 c2
    · rw [if_neg e, if_neg e, Int32.or_zero]
      exact ih fu (v + 1) _ M2 R' (by omega) (by omega) b2 c2
theorem kinds1_loop {N k p : Nat} {s : St} (hN : 160 < N) (hw : wfSt s) (hk : k < 4) (hp : p < dC (aV s)) : ∀ (m fu v : Nat) (acc : Int32) (M R : Mem), m < fu → v + m = 10 → RcS M s → RrS (rest R p (nI (kK (dS (aV s) p))) (nI (kM (dS (aV s) p)))) s →
    ∃ r M' R', b_X5_kinds_47 N (nI k) (nI p) (1 : Int32) fu acc (10 : Int32) (nI v) M = some (r, M') ∧ b_X6_kinds_50 N (nI k) (nI p) (1 : Int32) fu (nI (kK (dS (aV s) p))) (nI (kM (dS (aV s) p))) acc (nI v) R = some (r, R') ∧ RcS M' s ∧ RrS R' s := by
  intro m
  have hc6 : dC (aV s) ≤ 6 := hw.1.1
  have hz := (hw.2.2.2.2 k hk).2.1
  have hwf := hw.1.2.1 p hp
  have kp : (nI p).toNatClampNeg = p := nI_clamp (by omega)
  have j1 : inb (nI p) (len 101) = true := inb_nI (n := 6) (by omega) (by decide)
  have j2 : inb (nI p) (len 102) = true := inb_nI (n := 6) (by omega) (by decide)
  induction m with
  | zero =>
    intro fu v acc M R hf hv hc hr
    obtain ⟨fu, rfl⟩ : ∃ z, fu = z + 1 := ⟨fu - 1, by omega⟩
    have : v = 10 := by omega
    subst this
    rw [b_X5_kinds_47, b_X6_kinds_50, if_pos (show (10 : Int32) ≤ nI 10 by decide), if_neg (show ¬ (1 : Int32) = 0 by decide)]
    unfold b_X6_kinds_63 b_X6_kinds_138
    rw [if_pos (show (10 : Int32) ≤ nI 10 by decide), gd_t j1, gd_t j2, kp]
    exact ⟨_, _, _, rfl, rfl, hc, hr⟩
  | succ m ih =>
    intro fu v acc M R hf hv hc hr
    obtain ⟨fu, rfl⟩ : ∃ z, fu = z + 1 := ⟨fu - 1, by omega⟩
    obtain ⟨M1, a1, a2, a3⟩ := begin_s hw hc hp
    have hwf' : wfS (kdS (dS (aV s) p) (kK (dS (aV s) p)) v) := ⟨hwf.1, show v < 10 by omega, hwf.2.2.1, hwf.2.2.2.1, hwf.2.2.2.2.1, hwf.2.2.2.2.2.1, hwf.2.2.2.2.2.2.1, hwf.2.2.2.2.2.2.2.1, hwf.2.2.2.2.2.2.2.2⟩
    obtain ⟨M2, b1, b2⟩ := fo_c (N := N) (M := sFI M1 4 1 (nI v)) hN hw hk hw.1.2.2.2 (ghost_fi hw a3 1 (nI v)) (a2.s1 v) hwf'
    obtain ⟨R', c1, c2⟩ := unlike_k (N := N) (a := kK (dS (aV s) p)) (b := v) hN hw hr hp hk hwf.1 (by omega)
    rw [b_X5_kinds_47, b_X6_kinds_50, if_neg (show ¬ (10 : Int32) ≤ nI v from nI_ge (b := 10) (by omega) (by decide)), a1, bd2_s, if_neg (show ¬ (1 : Int32) = 0 by decide), if_neg (show ¬ (1 : Int32) = 0 by decide)]
    unfold b_X5_kinds_85 b_X6_kinds_63 b_X6_kinds_82 b_X6_kinds_83 b_X6_kinds_100 b_X6_kinds_101
    rw [if_neg (show ¬ (10 : Int32) ≤ nI v from nI_ge (b := 10) (by omega) (by decide)), if_neg (show ¬ (1 : Int32) = 0 by decide), gd_t j1, if_pos (show (1 : Int32) = 1 from rfl), gd_t j2, kp, gd_t (i73 hk), law_s hw (ghost_fi hw a3 1 (nI v)), bind_some_, nI_clamp (show k < 2 ^ 31 by omega), ar73, gd_t (isK_t (kd1 hk)), gd_t (isK_t (kdt hw hw.1.2.2.2)), show f_X5_firstOtherwise N (74 + k) (46 + dL (aV s)) (sFI M1 4 1 (nI v)) = _ from b1, bd2_s]
    rw [show f_X6_unlike N (nI k) (nI p) (sAI (sAI R 101 p (nI (kK (dS (aV s) p)))) 102 p (nI v)) = _ from c1, bd2_s]
    unfold b_X5_kinds_112 b_X6_kinds_121
    rw [nI_1]
    show ∃ r M' R'', (if resI (foN (aT s (dL (aV s))) (dW (aV s)) (aU s k) (aZ s k) 0 (dN (aV s)) (kdS (dS (aV s) p) (kK (dS (aV s) p)) v)) = -1 then _ else _) = some (r, M') ∧ _
    by_cases e : resI (foN (aT s (dL (aV s))) (dW (aV s)) (aU s k) (aZ s k) 0 (dN (aV s)) (kdS (dS (aV s) p) (kK (dS (aV s) p)) v)) = -1
    · rw [if_pos e, if_pos e]
      exact ih fu (v + 1) _ M2 R' (by omega) (by omega) b2 c2
    · rw [if_neg e, if_neg e, Int32.or_zero]
      exact ih fu (v + 1) _ M2 R' (by omega) (by omega) b2 c2
theorem st_kinds {N : Nat} {M R : Mem} (hN : 160 < N) (x1 x2 x3 : Int32) (h : Sim M R) : ∃ r M' R', f_X5_kinds N x1 x2 x3 M = some (r, M') ∧ f_X6_kinds N x1 x2 x3 R = some (r, R') ∧ Sim M' R' := by
  obtain ⟨s, hw, hc, hr⟩ := h
  have hc6 : dC (aV s) ≤ 6 := hw.1.1
  have bad : Sim M R := ⟨s, hw, hc, hr⟩
  unfold f_X5_kinds b_X5_kinds_0 f_X6_kinds b_X6_kinds_0
  rcases tw_b x1 x2 hw hc hr with ⟨k, p, hk, hp, rfl, rfl, hz, e1, e2⟩ | ⟨r, h0, e1, e2⟩
  · have kp : (nI p).toNatClampNeg = p := nI_clamp (by omega)
    have j1 : inb (nI p) (len 101) = true := inb_nI (n := 6) (by omega) (by decide)
    have j2 : inb (nI p) (len 102) = true := inb_nI (n := 6) (by omega) (by decide)
    have rr := hr.1.2.2.2.2 p hp
    have hrest : RrS (rest R p (nI (kK (dS (aV s) p))) (nI (kM (dS (aV s) p)))) s := by
      rw [← rr.1, ← rr.2.1, rest_self]
      exact hr
    rw [e1, e2, bind_some_, bind_some_, if_pos (show (0 : Int32) = 0 from rfl), if_pos (show (0 : Int32) = 0 from rfl), gd_t j1, gd_t j2, kp, rr.1, rr.2.1]
    unfold b_X5_kinds_28 b_X5_kinds_42
    rcases bit_b x3 with rfl | rfl | ⟨z0, z1, z2⟩
    · rw [if_pos (show (0 : Int32) = 0 from rfl), if_pos (show (0 : Int32) = 0 from rfl), show f_X6_in 0 0 1 R = some true from in_yes (k := 0) (n := 1) (by decide) (by decide) R, bind_some_, if_pos rfl]
      obtain ⟨r, M', R', a1, a2, a3, a4⟩ := kinds0_loop (N := N) hN hw hk hp 6 N 0 0 M R (by omega) (by omega) hc hrest
      exact ⟨r, M', R', a1, a2, s, hw, a3, a4⟩
    · rw [if_neg (show ¬ (1 : Int32) = 0 by decide), if_pos (show (1 : Int32) = 1 from rfl), if_neg (show ¬ (1 : Int32) = 0 by decide), show f_X6_in 1 0 1 R = some true from in_yes (k := 1) (n := 1) (by decide) (by decide) R, bind_some_, if_pos rfl]
      obtain ⟨r, M', R', a1, a2, a3, a4⟩ := kinds1_loop (N := N) hN hw hk hp 10 N 0 0 M R (by omega) (by omega) hc hrest
      exact ⟨r, M', R', a1, a2, s, hw, a3, a4⟩
    · rw [if_neg z0, if_neg z1, in_r, z2, bind_some_, if_neg Bool.false_ne_true]
      exact ⟨_, M, R, rfl, rfl, bad⟩
  · rw [e1, e2, bind_some_, bind_some_, if_neg h0, if_neg h0]
    exact ⟨_, M, R, rfl, rfl, bad⟩
