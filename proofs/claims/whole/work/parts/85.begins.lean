/-! L2: begins, ways -/
theorem setS_setS (s : St) (p : Nat) (a b : Sl) : setS (setS s p a) p b = setS s p b := by
  have e : setF (setF (dS (aV s)) p a) p b = setF (dS (aV s)) p b := by
    funext q
    unfold setF
    by_cases h : q = p
    · rw [if_pos h, if_pos h]
    · rw [if_neg h, if_neg h, if_neg h]
  show withV s (mkV (dC (aV s)) (setF (setF (dS (aV s)) p a) p b) (dW (aV s)) (dN (aV s)) (dL (aV s))) = _
  rw [e]
  rfl
theorem setS_self (s : St) (p : Nat) : setS s p (dS (aV s) p) = s := by
  have e : setF (dS (aV s)) p (dS (aV s) p) = dS (aV s) := by
    funext q
    unfold setF
    by_cases h : q = p
    · rw [if_pos h, h]
    · rw [if_neg h]
  unfold setS
  rw [e]
  rfl
/-- one as told but for the cell, the way or what is next -/
def fldS (σ : Sl) (what v : Nat) : Sl := if what = 0 then mkS (kK σ) (kM σ) v (kW σ) (kN σ) (kT σ) (kL σ) (kS σ) else if what = 1 then mkS (kK σ) (kM σ) (kC σ) v (kN σ) (kT σ) (kL σ) (kS σ) else mkS (kK σ) (kM σ) (kC σ) (kW σ) v (kT σ) (kL σ) (kS σ)
def fldB (σ : Sl) (what : Nat) : Nat := if what = 0 then 64 else if what = 1 then 4 else (kS σ).length
theorem wf_fld {σ : Sl} {what v : Nat} (h : wfS σ) (hw : what < 3) (hv : v < fldB σ what) : wfS (fldS σ what v) := by
  obtain ⟨w0, w1, w2, w3, w4, w5, w6, w7, w8⟩ := id h
  have e : what = 0 ∨ what = 1 ∨ what = 2 := by omega
  rcases e with rfl | rfl | rfl
  · exact wf_fields h hv w3 w4 w5 w6
  · exact wf_fields h w2 hv w4 w5 w6
  · exact wf_fields h w2 w3 hv w5 w6
theorem fld_K {σ : Sl} {what v : Nat} (hw : what < 3) : kK (fldS σ what v) = kK σ ∧ kM (fldS σ what v) = kM σ := by
  have e : what = 0 ∨ what = 1 ∨ what = 2 := by omega
  rcases e with rfl | rfl | rfl <;> exact ⟨rfl, rfl⟩
theorem fld_c {M : Mem} {a what v : Nat} {σ : Sl} (h : RS M a σ) (hw : what < 3) : f_X2_become a (nI what) (nI v) M = some (sFI M a (what + 2) (nI v)) ∧ RS (sFI M a (what + 2) (nI v)) a (fldS σ what v) := by
  have e : what = 0 ∨ what = 1 ∨ what = 2 := by omega
  rcases e with rfl | rfl | rfl
  · exact ⟨rfl, h.s2 v⟩
  · exact ⟨rfl, h.s3 v⟩
  · exact ⟨rfl, h.s4 v⟩
theorem fld_r {R : Mem} {p what : Nat} {σ : Sl} (h : RR R p σ) (hw : what < 3) (v : Nat) : RR (sAI R 103 (5 * p + what) (nI v)) p (fldS σ what v) := by
  have e : what = 0 ∨ what = 1 ∨ what = 2 := by omega
  rcases e with rfl | rfl | rfl
  · exact h.s2 v
  · exact h.s3 v
  · exact h.s4 v
theorem fld_fld {σ : Sl} {what u v : Nat} (hw : what < 3) : fldS (fldS σ what u) what v = fldS σ what v := by
  have e : what = 0 ∨ what = 1 ∨ what = 2 := by omega
  rcases e with rfl | rfl | rfl <;> rfl
def fldV (σ : Sl) (what : Nat) : Nat := if what = 0 then kC σ else if what = 1 then kW σ else kN σ
theorem fld_self {σ : Sl} {what : Nat} (hw : what < 3) : fldS σ what (fldV σ what) = σ := by
  have e : what = 0 ∨ what = 1 ∨ what = 2 := by omega
  rcases e with rfl | rfl | rfl <;> rfl
theorem fldV_lt {σ : Sl} {what : Nat} (h : wfS σ) (hw : what < 3) : fldV σ what < fldB σ what := by
  have e : what = 0 ∨ what = 1 ∨ what = 2 := by omega
  rcases e with rfl | rfl | rfl
  · exact h.2.2.1
  · exact h.2.2.2.1
  · exact h.2.2.2.2.1
/-- whether told nights are one's, what being v -/
def soB (s : St) (k p what v : Nat) : Bool := decide (foN (aT s (dL (aV s))) (dW (aV s)) (aU s k) (aZ s k) 0 (dN (aV s)) (fldS (dS (aV s) p) what v) = none)
def bsF (o : Nat → Bool) : Nat → Nat → Int64 → Int64
  | 0, _, acc => acc
  | m + 1, v, acc => bsF o m (v + 1) (if o v = true then acc ||| bitL v else acc)
def bsG (o : Nat → Bool) : Nat → Nat → Int32 → Int32
  | 0, _, acc => acc
  | m + 1, v, acc => bsG o m (v + 1) (if o v = true then acc ||| ((1 : Int32) <<< (nI v &&& 31)) else acc)
theorem bit_i32 : ∀ v, v < 16 → (bitL v).toInt32 = (1 : Int32) <<< (nI v &&& 31) := by decide +kernel
theorem bsF_G {o : Nat → Bool} : ∀ (m v : Nat) (acc : Int64), v + m ≤ 16 → (bsF o m v acc).toInt32 = bsG o m v acc.toInt32
  | 0, _, _, _ => rfl
  | m + 1, v, acc, h => by
    show (bsF o m (v + 1) (if o v = true then acc ||| bitL v else acc)).toInt32 = bsG o m (v + 1) (if o v = true then acc.toInt32 ||| ((1 : Int32) <<< (nI v &&& 31)) else acc.toInt32)
    rw [bsF_G m (v + 1) _ (by omega)]
    by_cases e : o v = true
    · rw [if_pos e, if_pos e, Int64.toInt32_or, bit_i32 v (by omega)]
    · rw [if_neg e, if_neg e]
theorem so_i {s : St} (hw : wfSt s) {k : Nat} (hk : k < 4) (p what v : Nat) : (resI (foN (aT s (dL (aV s))) (dW (aV s)) (aU s k) (aZ s k) 0 (dN (aV s)) (fldS (dS (aV s) p) what v)) = -1) = (soB s k p what v = true) := by
  rw [foN_m1 (hw.2.2.2.2 k hk).2.1]
  unfold soB
  rw [decide_eq_true_eq]
theorem bits_c {N k p what B : Nat} {s : St} (hN : 160 < N) (hw : wfSt s) (hk : k < 4) (hp : p < dC (aV s)) (hwh : what < 3) (hB : B = fldB (dS (aV s) p) what) (hB64 : B ≤ 64) : ∀ (m fu v : Nat) (acc : Int64) (M : Mem), m < fu → v + m = B → RcS M s →
    ∃ M', b_X5_bitsSo_33 N (nI k) (nI p) (nI what) fu (nI B) acc (nI v) M = some (bsF (soB s k p what) m v acc, M') ∧ RcS M' s := by
  intro m
  have hwf := hw.1.2.1 p hp
  induction m with
  | zero =>
    intro fu v acc M hf hv hc
    obtain ⟨fu, rfl⟩ : ∃ z, fu = z + 1 := ⟨fu - 1, by omega⟩
    rw [b_X5_bitsSo_33, if_pos (nI_le (by omega) (by omega))]
    exact ⟨M, rfl, hc⟩
  | succ m ih =>
    intro fu v acc M hf hv hc
    obtain ⟨fu, rfl⟩ : ∃ z, fu = z + 1 := ⟨fu - 1, by omega⟩
    obtain ⟨M1, a1, a2, a3⟩ := begin_s hw hc hp
    obtain ⟨f1, f2⟩ := fld_c (v := v) a2 hwh
    obtain ⟨M2, b1, b2⟩ := fo_c (N := N) hN hw hk hw.1.2.2.2 (ghost_fi hw a3 (what + 2) (nI v)) f2 (wf_fld (v := v) hwf hwh (by omega))
    rw [b_X5_bitsSo_33, if_neg (nI_ge (by omega) (by omega)), a1, bd2_s, f1, bind_some_, gd_t (i73 hk), law_s hw (ghost_fi hw a3 (what + 2) (nI v)), bind_some_, nI_clamp (show k < 2 ^ 31 by omega), ar73, gd_t (isK_t (kd1 hk)), gd_t (isK_t (kdt hw hw.1.2.2.2)), b1, bd2_s]
    unfold b_X5_bitsSo_83
    rw [nI_1, show bsF (soB s k p what) (m + 1) v acc = bsF (soB s k p what) m (v + 1) (if soB s k p what v = true then acc ||| bitL v else acc) from rfl]
    by_cases e : soB s k p what v = true
    · rw [if_pos ((so_i hw hk p what v).mpr e), if_pos e]
      exact ih fu (v + 1) _ M2 (by omega) (by omega) b2
    · rw [if_neg (fun z => e ((so_i hw hk p what v).mp z)), if_neg e]
      exact ih fu (v + 1) _ M2 (by omega) (by omega) b2
theorem bitsSo_c {N k p what : Nat} {s : St} {M : Mem} (hN : 160 < N) (hw : wfSt s) (hc : RcS M s) (hk : k < 4) (hp : p < dC (aV s)) (hwh : what < 3) : ∃ M', f_X5_bitsSo N (nI k) (nI p) (nI what) M = some (bsF (soB s k p what) (fldB (dS (aV s) p) what) 0 0, M') ∧ RcS M' s := by
  have hc6 : dC (aV s) ≤ 6 := hw.1.1
  have ki := slx_kd (wi := 1) (q := p) (by decide) (by decide) (by omega)
  have h16 : (kS (dS (aV s) p)).length ≤ 16 := (hw.1.2.1 p hp).2.2.2.2.2.2.2.1
  have hbd : f_X2_bound (slx 1 p) (nI what) M = some (nI (fldB (dS (aV s) p) what)) := by
    have e : what = 0 ∨ what = 1 ∨ what = 2 := by omega
    rcases e with rfl | rfl | rfl
    · rfl
    · rfl
    · show some (FI M (slx 1 p) 7) = _
      rw [show FI M (slx 1 p) 7 = _ from (hc.1.2.2.2.2 p hp).2.2.2.2.2.2.2.1]; rfl
  have hB64 : fldB (dS (aV s) p) what ≤ 64 := by
    unfold fldB
    split
    · omega
    · split <;> omega
  unfold f_X5_bitsSo b_X5_bitsSo_0
  rw [numbered_w (by decide) (by decide) hc6 hc.1.2.2.2.1, if_pos ⟨nI_pos (by omega), (nI_ltI (by omega) (by omega)).mpr hp⟩, bind_some_, oc_some_, nI_clamp (by omega), gd_t (isK_t ki), hbd, bind_some_]
  unfold b_X5_bitsSo_25
  exact bits_c hN hw hk hp hwh rfl hB64 (fldB (dS (aV s) p) what) N 0 0 M (by omega) (by omega) hc
/-- the reference with what of one being v -/
theorem fld_set {p what u v : Nat} {R : Mem} {s : St} (hw : wfSt s) (hp : p < dC (aV s)) (hwh : what < 3) (hu : u < fldB (dS (aV s) p) what) (hr : RrS R (setS s p (fldS (dS (aV s) p) what u))) : RrS (sAI R 103 (5 * p + what) (nI v)) (setS s p (fldS (dS (aV s) p) what v)) := by
  have hwf := hw.1.2.1 p hp
  have kk := fld_K (σ := dS (aV s) p) (v := u) hwh
  have w2 := wf_set hw (wf_fld hwf hwh hu) kk.1 kk.2
  have rr : RR R p (fldS (dS (aV s) p) what u) := by
    have h := hr.1.2.2.2.2 p hp
    rw [show dS (aV (setS s p (fldS (dS (aV s) p) what u))) p = fldS (dS (aV s) p) what u from setF_s _ _ _] at h
    exact h
  have h2 := hr.set w2 (Mp.row R (p := p) (k := 5 * p + what) (nI v) (by omega) (by omega)) (fld_r rr hwh v)
  rw [setS_setS, fld_fld hwh] at h2
  exact h2
theorem unlike_f {N k p what u v : Nat} {R : Mem} {s : St} (hN : 160 < N) (hw : wfSt s) (hp : p < dC (aV s)) (hk : k < 4) (hwh : what < 3) (hu : u < fldB (dS (aV s) p) what) (hv : v < fldB (dS (aV s) p) what) (hr : RrS R (setS s p (fldS (dS (aV s) p) what u))) : ∃ R', f_X6_unlike N (nI k) (nI p) (sAI R 103 (5 * p + what) (nI v)) = some (resI (foN (aT s (dL (aV s))) (dW (aV s)) (aU s k) (aZ s k) 0 (dN (aV s)) (fldS (dS (aV s) p) what v)), R') ∧ RrS R' (setS s p (fldS (dS (aV s) p) what v)) := by
  have hwf := hw.1.2.1 p hp
  have kk := fld_K (σ := dS (aV s) p) (v := v) hwh
  have w2 := wf_set hw (wf_fld hwf hwh hv) kk.1 kk.2
  obtain ⟨R', a1, a2⟩ := unlike_s (N := N) (k := k) (p := p) hN w2 (fld_set (v := v) hw hp hwh hu hr) hp hk
  rw [show dS (aV (setS s p (fldS (dS (aV s) p) what v))) p = fldS (dS (aV s) p) what v from setF_s _ _ _] at a1
  exact ⟨R', a1, a2⟩
theorem begins_r {N k p : Nat} {s : St} (hN : 160 < N) (hw : wfSt s) (hk : k < 4) (hp : p < dC (aV s)) : ∀ (m fu v u : Nat) (acc : Int64) (R : Mem), m < fu → v + m = 64 → u < 64 → RrS R (setS s p (fldS (dS (aV s) p) 0 u)) →
    ∃ R', b_X6_begins_28 N (nI k) (nI p) fu (nI (kC (dS (aV s) p))) acc (nI v) R = some (bsF (soB s k p 0) m v acc, R') ∧ RrS R' s := by
  intro m
  have hc6 : dC (aV s) ≤ 6 := hw.1.1
  have x5 : (5 : Int32) * nI p = nI (5 * p + 0) := pk_mul 5 p
  have k5 : (nI (5 * p + 0)).toNatClampNeg = 5 * p + 0 := nI_clamp (by omega)
  have i5 : inb (nI (5 * p + 0)) (len 103) = true := inb_nI (n := 30) (by omega) (by decide)
  induction m with
  | zero =>
    intro fu v u acc R hf hv hu hr
    obtain ⟨fu, rfl⟩ : ∃ z, fu = z + 1 := ⟨fu - 1, by omega⟩
    have : v = 64 := by omega
    subst this
    rw [b_X6_begins_28, if_pos (show (64 : Int32) ≤ nI 64 by decide), x5, gd_t i5, k5]
    have h := fld_set (v := kC (dS (aV s) p)) (what := 0) hw hp (by decide) hu hr
    rw [show fldS (dS (aV s) p) 0 (kC (dS (aV s) p)) = dS (aV s) p from fld_self (what := 0) (by decide), setS_self] at h
    exact ⟨_, rfl, h⟩
  | succ m ih =>
    intro fu v u acc R hf hv hu hr
    obtain ⟨fu, rfl⟩ : ∃ z, fu = z + 1 := ⟨fu - 1, by omega⟩
    obtain ⟨R', c1, c2⟩ := unlike_f (N := N) (what := 0) (v := v) hN hw hp hk (by decide) hu (show v < 64 by omega) hr
    rw [b_X6_begins_28, if_neg (show ¬ (64 : Int32) ≤ nI v from nI_ge (b := 64) (by omega) (by decide)), x5, gd_t i5, k5]
    unfold b_X6_begins_45
    rw [c1, bd2_s]
    unfold b_X6_begins_65
    rw [nI_1, show bsF (soB s k p 0) (m + 1) v acc = bsF (soB s k p 0) m (v + 1) (if soB s k p 0 v = true then acc ||| bitL v else acc) from rfl]
    by_cases e : soB s k p 0 v = true
    · rw [if_pos ((so_i hw hk p 0 v).mpr e), if_pos e]
      exact ih fu (v + 1) v _ R' (by omega) (by omega) (by omega) c2
    · rw [if_neg (fun z => e ((so_i hw hk p 0 v).mp z)), if_neg e, Int64.or_zero]
      exact ih fu (v + 1) v _ R' (by omega) (by omega) (by omega) c2
theorem ways_r {N k p so : Nat} {s : St} (hN : 160 < N) (hw : wfSt s) (hk : k < 4) (hp : p < dC (aV s)) (hso : so = 1 ∨ so = 2) : ∀ (m fu v u : Nat) (acc : Int32) (R : Mem), m < fu → v + m = fldB (dS (aV s) p) so → u < fldB (dS (aV s) p) so → RrS R (setS s p (fldS (dS (aV s) p) so u)) →
    ∃ R', b_X6_ways_46 N (nI k) (nI p) (nI so) fu (nI (fldV (dS (aV s) p) so)) acc (nI v) R = some (bsG (soB s k p so) m v acc, R') ∧ RrS R' s := by
  intro m
  have hc6 : dC (aV s) ≤ 6 := hw.1.1
  have hwf := hw.1.2.1 p hp
  have h16 : (kS (dS (aV s) p)).length ≤ 16 := hwf.2.2.2.2.2.2.2.1
  have hB : fldB (dS (aV s) p) so ≤ 16 := by
    rcases hso with rfl | rfl
    · show 4 ≤ 16; decide
    · exact h16
  have x5 : (5 : Int32) * nI p + nI so = nI (5 * p + so) := by rw [show (5 : Int32) * nI p = nI (5 * p) from pk_mul 5 p, nI_add]
  have k5 : (nI (5 * p + so)).toNatClampNeg = 5 * p + so := nI_clamp (by omega)
  have i5 : inb (nI (5 * p + so)) (len 103) = true := inb_nI (n := 30) (by omega) (by decide)
  have kp : (nI p).toNatClampNeg = p := nI_clamp (by omega)
  have j5 : inb (nI p) (len 105) = true := inb_nI (n := 6) (by omega) (by decide)
  have e46 : ∀ (fu u v : Nat) (acc : Int32) (R : Mem), RrS R (setS s p (fldS (dS (aV s) p) so u)) → b_X6_ways_46 N (nI k) (nI p) (nI so) (fu + 1) (nI (fldV (dS (aV s) p) so)) acc (nI v) R = b_X6_ways_63 N (nI k) (nI p) (nI so) (b_X6_ways_46 N (nI k) (nI p) (nI so) fu) (nI (fldV (dS (aV s) p) so)) acc (nI v) (nI v) (nI (fldB (dS (aV s) p) so)) R := by
    intro fu u v acc R hr
    rw [b_X6_ways_46]
    rcases hso with rfl | rfl
    · rw [if_pos (show nI 1 = 1 from rfl)]; rfl
    · have rr := (hr.1.2.2.2.2 p hp).2.2.2.2.2.2.2.1
      rw [show dS (aV (setS s p (fldS (dS (aV s) p) 2 u))) p = fldS (dS (aV s) p) 2 u from setF_s _ _ _] at rr
      rw [if_neg (show ¬ nI 2 = 1 by decide), gd_t j5, kp, rr]; rfl
  induction m with
  | zero =>
    intro fu v u acc R hf hv hu hr
    obtain ⟨fu, rfl⟩ : ∃ z, fu = z + 1 := ⟨fu - 1, by omega⟩
    rw [e46 fu u v acc R hr]
    unfold b_X6_ways_63
    rw [if_pos (nI_le (by omega) (by omega)), x5, gd_t i5, k5]
    have h := fld_set (v := fldV (dS (aV s) p) so) (what := so) hw hp (by omega) hu hr
    rw [fld_self (by omega), setS_self] at h
    exact ⟨_, rfl, h⟩
  | succ m ih =>
    intro fu v u acc R hf hv hu hr
    obtain ⟨fu, rfl⟩ : ∃ z, fu = z + 1 := ⟨fu - 1, by omega⟩
    obtain ⟨R', c1, c2⟩ := unlike_f (N := N) (what := so) (v := v) hN hw hp hk (by omega) hu (by omega) hr
    rw [e46 fu u v acc R hr]
    unfold b_X6_ways_63
    rw [if_neg (nI_ge (by omega) (by omega)), x5, gd_t i5, k5]
    unfold b_X6_ways_78
    rw [c1, bd2_s]
    unfold b_X6_ways_98
    rw [nI_1, show bsG (soB s k p so) (m + 1) v acc = bsG (soB s k p so) m (v + 1) (if soB s k p so v = true then acc ||| ((1 : Int32) <<< (nI v &&& 31)) else acc) from rfl]
    by_cases e : soB s k p so v = true
    · rw [if_pos ((so_i hw hk p so v).mpr e), if_pos e]
      exact ih fu (v + 1) v _ R' (by omega) (by omega) (by omega) c2
    · rw [if_neg (fun z => e ((so_i hw hk p so v).mp z)), if_neg e, Int32.or_zero]
      exact ih fu (v + 1) v _ R' (by omega) (by omega) (by omega) c2
theorem st_begins {N : Nat} {M R : Mem} (hN : 160 < N) (x1 x2 : Int32) (h : Sim M R) : ∃ r M' R', f_X5_begins N x1 x2 M = some (r, M') ∧ f_X6_begins N x1 x2 R = some (r, R') ∧ Sim M' R' := by
  obtain ⟨s, hw, hc, hr⟩ := h
  have hc6 : dC (aV s) ≤ 6 := hw.1.1
  unfold f_X5_begins b_X5_begins_0 f_X6_begins b_X6_begins_0
  rcases tw_b x1 x2 hw hc hr with ⟨k, p, hk, hp, rfl, rfl, hz, e1, e2⟩ | ⟨r, h0, e1, e2⟩
  · have hwf := hw.1.2.1 p hp
    obtain ⟨M', a1, a2⟩ := bitsSo_c (N := N) (what := 0) hN hw hc hk hp (by decide)
    obtain ⟨R', b1, b2⟩ := begins_r (N := N) hN hw hk hp 64 N 0 (kC (dS (aV s) p)) 0 R (by omega) (by omega) hwf.2.2.1 (by
      rw [show fldS (dS (aV s) p) 0 (kC (dS (aV s) p)) = dS (aV s) p from fld_self (what := 0) (by decide), setS_self]
      exact hr)
    rw [e1, e2, bind_some_, bind_some_, if_pos (show (0 : Int32) = 0 from rfl), if_pos (show (0 : Int32) = 0 from rfl), show f_X5_bitsSo N (nI k) (nI p) (0 : Int32) M = _ from a1, bd2_s, show (5 : Int32) * nI p = nI (5 * p) from pk_mul 5 p, gdn (n := len 103) (show 5 * p < 30 by omega) (by decide), nI_clamp (show 5 * p < 2 ^ 31 by omega), show AI R 103 (5 * p) = _ from (hr.1.2.2.2.2 p hp).2.2.1]
    exact ⟨_, M', R', rfl, b1, s, hw, a2, b2⟩
  · rw [e1, e2, bind_some_, bind_some_, if_neg h0, if_neg h0]
    exact ⟨_, M, R, rfl, rfl, s, hw, hc, hr⟩
theorem st_ways {N : Nat} {M R : Mem} (hN : 160 < N) (x1 x2 x3 : Int32) (h : Sim M R) : ∃ r M' R', f_X5_ways N x1 x2 x3 M = some (r, M') ∧ f_X6_ways N x1 x2 x3 R = some (r, R') ∧ Sim M' R' := by
  obtain ⟨s, hw, hc, hr⟩ := h
  have hc6 : dC (aV s) ≤ 6 := hw.1.1
  have bad : Sim M R := ⟨s, hw, hc, hr⟩
  unfold f_X5_ways b_X5_ways_0 f_X6_ways b_X6_ways_0
  rcases tw_b x1 x2 hw hc hr with ⟨k, p, hk, hp, rfl, rfl, hz, e1, e2⟩ | ⟨r, h0, e1, e2⟩
  · have hwf := hw.1.2.1 p hp
    have h16 : (kS (dS (aV s) p)).length ≤ 16 := hwf.2.2.2.2.2.2.2.1
    rw [e1, e2, bind_some_, bind_some_, if_pos (show (0 : Int32) = 0 from rfl), if_pos (show (0 : Int32) = 0 from rfl)]
    have fin : ∀ so : Nat, so = 1 ∨ so = 2 → ∃ r M' R', b_X5_ways_29 N (nI k) (nI p) (nI so) M = some (r, M') ∧ gd (inb ((5 : Int32) * nI p + nI so) (len 103)) (b_X6_ways_46 N (nI k) (nI p) (nI so) N (AI R 103 ((5 : Int32) * nI p + nI so).toNatClampNeg) (0 : Int32) (0 : Int32) R) = some (r, R') ∧ Sim M' R' := by
      intro so hso
      have hB : fldB (dS (aV s) p) so ≤ 16 := by
        rcases hso with rfl | rfl
        · show 4 ≤ 16; decide
        · exact h16
      obtain ⟨M', a1, a2⟩ := bitsSo_c (N := N) (what := so) hN hw hc hk hp (by omega)
      obtain ⟨R', b1, b2⟩ := ways_r (N := N) hN hw hk hp hso (fldB (dS (aV s) p) so) N 0 (fldV (dS (aV s) p) so) 0 R (by omega) (by omega) (fldV_lt hwf (by omega)) (by
        rw [fld_self (by omega), setS_self]
        exact hr)
      have hv : AI R 103 (5 * p + so) = nI (fldV (dS (aV s) p) so) := by
        rcases hso with rfl | rfl
        · exact (hr.1.2.2.2.2 p hp).2.2.2.1
        · exact (hr.1.2.2.2.2 p hp).2.2.2.2.1
      unfold b_X5_ways_29
      rw [a1, bd2_s, show (5 : Int32) * nI p + nI so = nI (5 * p + so) by rw [show (5 : Int32) * nI p = nI (5 * p) from pk_mul 5 p, nI_add], gdn (n := len 103) (show 5 * p + so < 30 by omega) (by decide), nI_clamp (show 5 * p + so < 2 ^ 31 by omega), hv]
      refine ⟨_, M', R', rfl, ?_, s, hw, a2, b2⟩
      rw [bsF_G _ _ _ (by omega)]
      exact b1
    by_cases z1 : x3 = 1
    · rw [if_pos z1, z1, show f_X6_in 1 1 2 R = some true from in_n (k := 1) (a := 1) (b := 2) (by decide) (by decide) (by decide) R, bind_some_, if_pos rfl]
      exact fin 1 (Or.inl rfl)
    · rw [if_neg z1]
      by_cases z2 : x3 = 2
      · rw [if_pos z2, z2, show f_X6_in 2 1 2 R = some true from in_n (k := 2) (a := 1) (b := 2) (by decide) (by decide) (by decide) R, bind_some_, if_pos rfl]
        exact fin 2 (Or.inr rfl)
      · rw [if_neg z2, in_r]
        have : decide (¬ x3 < 1 ∧ ¬ (2 : Int32) < x3) = false := by
          refine decide_eq_false fun z => ?_
          have w1 := z.1
          have w2 := z.2
          rw [Int32.lt_iff_toInt_lt] at w1 w2
          have a1 : (1 : Int32).toInt = 1 := by decide
          have a2 : (2 : Int32).toInt = 2 := by decide
          have e : x3.toInt = 1 ∨ x3.toInt = 2 := by omega
          rcases e with e | e
          · exact z1 (Int32.toInt_inj.mp e)
          · exact z2 (Int32.toInt_inj.mp e)
        rw [this, bind_some_, if_neg Bool.false_ne_true]
        exact ⟨_, M, R, rfl, rfl, bad⟩
  · rw [e1, e2, bind_some_, bind_some_, if_neg h0, if_neg h0]
    exact ⟨_, M, R, rfl, rfl, bad⟩
