/-! L2: sums over all sleepers: what they mind, and twos -/
def sumI (f : Nat → Int32) : Nat → Int32
  | 0 => 0
  | n + 1 => sumI f n + f n
theorem mindsAll_loop_c {N wi t cnt night law : Nat} {w : Int64} {x : Txt} {M : Mem} {σf : Nat → Sl} (hN : 160 < N) (h1 : 1 ≤ wi) (h3 : wi ≤ 3) (hc : cnt ≤ 6) (ht : kd t = 3) (hx : wfT x) (hwf : ∀ q, q < cnt → wfS (σf q)) (hW : WC M wi cnt σf w night law) (hT : RTc M t x) : ∀ (m fu p : Nat) (g : Nat → Int32), m < fu → p + m = cnt →
    ∃ g', b_X4_mindsOfAll_4 N wi t fu (sumI (fun q => mindsS x (σf q)) p) (nI p) (rAI M 70 g) = some (sumI (fun q => mindsS x (σf q)) cnt, rAI M 70 g') := by
  intro m
  induction m with
  | zero =>
    intro fu p g hf hp
    obtain ⟨fu, rfl⟩ : ∃ z, fu = z + 1 := ⟨fu - 1, by omega⟩
    have : p = cnt := by omega
    subst this
    rw [b_X4_mindsOfAll_4, FI_rAI, hW.2.2.2.1, if_pos (nI_le (by omega) (by omega))]
    exact ⟨g, rfl⟩
  | succ m ih =>
    intro fu p g hf hp
    obtain ⟨fu, rfl⟩ : ∃ z, fu = z + 1 := ⟨fu - 1, by omega⟩
    have ki := slx_kd (q := p) h1 h3 (by omega)
    obtain ⟨g1, e1⟩ := minds_c (N := N) hN ht ki ((hW.2.2.2.2 p (by omega)).st ki g) (hwf p (by omega)) (hT.st ht g) hx
    rw [b_X4_mindsOfAll_4, FI_rAI, hW.2.2.2.1, if_neg (nI_ge (by omega) (by omega)), if_neg (show ¬ (6 : Int32) ≤ nI p from nI_ge (b := 6) (by omega) (by decide)), gd_t (by rw [n_4_4 (kd4 h1 h3)]; exact inb_nI (by omega) (by decide)), nI_clamp (by omega)]
    show ∃ g', gd (isK (slx wi p) 2) (bd2 (f_X2_mindsBy N (slx wi p) t (rAI M 70 g)) fun r26 M26 => b_X4_mindsOfAll_4 N wi t fu (sumI (fun q => mindsS x (σf q)) p + r26) (nI p + 1) M26) = _
    rw [gd_t (isK_t ki), e1, bd2_s, nI_1, rAI_rAI]
    exact ih fu (p + 1) g1 (by omega) (by omega)
theorem mindsAll_c {N wi t cnt night law : Nat} {w : Int64} {x : Txt} {M : Mem} {σf : Nat → Sl} (hN : 160 < N) (h1 : 1 ≤ wi) (h3 : wi ≤ 3) (hc : cnt ≤ 6) (ht : kd t = 3) (hx : wfT x) (hwf : ∀ q, q < cnt → wfS (σf q)) (hW : WC M wi cnt σf w night law) (hT : RTc M t x) :
    ∃ g', f_X4_mindsOfAll N wi t M = some (sumI (fun q => mindsS x (σf q)) cnt, rAI M 70 g') := by
  have h := mindsAll_loop_c (N := N) hN h1 h3 hc ht hx hwf hW hT cnt N 0 (AI M 70) (by omega) (by omega)
  rw [rAI_self] at h
  exact h
theorem mindsAll_loop_r {N cnt night law tx : Nat} {w : Int64} {tf : Nat → Txt} {σf : Nat → Sl} (hN : 160 < N) (hc : cnt ≤ 6) (hl : law < tx) (htx : tx ≤ 6) (hxf : ∀ i, i < tx → wfT (tf i)) (hwf : ∀ q, q < cnt → wfS (σf q)) : ∀ (m fu p : Nat) (R : Mem), m < fu → p + m = cnt → TR R tx tf → WR R cnt σf w night law →
    ∃ R', b_X6_mindsAll_4 N fu (sumI (fun q => mindsS (tf law) (σf q)) p) (nI p) R = some (sumI (fun q => mindsS (tf law) (σf q)) cnt, R') ∧ Mt R R' ∧ WR R' cnt σf w night law ∧ FI R' 100 = FI R 100 ∧ FJ R' 100 = FJ R 100 ∧ AJ R' 119 = AJ R 119 := by
  intro m
  induction m with
  | zero =>
    intro fu p R hf hp hT hW
    obtain ⟨fu, rfl⟩ : ∃ z, fu = z + 1 := ⟨fu - 1, by omega⟩
    have : p = cnt := by omega
    subst this
    rw [b_X6_mindsAll_4, hW.2.2.2.1, if_pos (nI_le (by omega) (by omega))]
    exact ⟨R, rfl, Mt.rf R, hW, rfl, rfl, rfl⟩
  | succ m ih =>
    intro fu p R hf hp hT hW
    obtain ⟨fu, rfl⟩ : ∃ z, fu = z + 1 := ⟨fu - 1, by omega⟩
    obtain ⟨g, g', e1⟩ := minds_r (N := N) (q := p) (i := law) hN (by omega) (by omega) hW.2.2.1 (hW.2.2.2.2 p (by omega)) (hwf p (by omega)) (hT law hl) (hxf law hl)
    rw [b_X6_mindsAll_4, hW.2.2.2.1, if_neg (nI_ge (by omega) (by omega)), e1, bd2_s, nI_1]
    obtain ⟨R', a1, a2, a3, a4, a5, a6⟩ := ih fu (p + 1) (rAI (rAI R 118 g) 117 g') (by omega) (by omega) (hT.mt (Mt.ga R g g')) hW
    exact ⟨R', a1, (Mt.ga R g g').tr a2, a3, a4, a5, a6⟩
/-- twos, counted to the left -/
theorem tw_in_c {N wi cnt p : Nat} {M : Mem} {f : Nat → Nat} {k4 : Int32 → Int32 → Option Int32} (h1 : 1 ≤ wi) (h3 : wi ≤ 3) (hc : cnt ≤ 6) (hp : p < cnt) (hf : ∀ q, q < cnt → f q < 64) (hM : ∀ q, q < cnt → FI M (slx wi q) 2 = nI (f q)) : ∀ (m fu q base : Nat), m < fu → q + m = p →
    b_X4_twos_20 N M wi k4 fu (nI (base + sumF (fun q => if f p = f q then 1 else 0) q)) (nI p) (nI q) = k4 (nI (base + sumF (fun q => if f p = f q then 1 else 0) p)) (nI (p + 1)) := by
  intro m
  induction m with
  | zero =>
    intro fu q base hf' hq
    obtain ⟨fu, rfl⟩ : ∃ z, fu = z + 1 := ⟨fu - 1, by omega⟩
    have : q = p := by omega
    subst this
    rw [b_X4_twos_20, if_pos (nI_le (by omega) (by omega)), nI_1]
  | succ m ih =>
    intro fu q base hf' hq
    obtain ⟨fu, rfl⟩ : ∃ z, fu = z + 1 := ⟨fu - 1, by omega⟩
    have e2 : sumF (fun q => if f p = f q then 1 else 0) (q + 1) = sumF (fun q => if f p = f q then 1 else 0) q + (if f p = f q then 1 else 0) := rfl
    have fp := hf p hp
    have fq := hf q (by omega)
    rw [b_X4_twos_20, if_neg (nI_ge (by omega) (by omega)), gd_t (by rw [n_4_4 (kd4 h1 h3)]; exact inb_nI (by omega) (by decide)), nI_clamp (show p < 2 ^ 31 by omega), gd_t (isK_t (show kd (AR (wi + 41) p) = 2 from slx_kd h1 h3 (by omega))), gd_t (by rw [n_4_4 (kd4 h1 h3)]; exact inb_nI (by omega) (by decide)), nI_clamp (show q < 2 ^ 31 by omega), gd_t (isK_t (show kd (AR (wi + 41) q) = 2 from slx_kd h1 h3 (by omega))), show FI M (AR (wi + 41) p) 2 = nI (f p) from hM p hp, show FI M (AR (wi + 41) q) 2 = nI (f q) from hM q (by omega)]
    unfold b_X4_twos_49
    have h := ih fu (q + 1) base (by omega) (by omega)
    rw [e2] at h
    by_cases e : f p = f q
    · rw [if_pos e] at h
      rw [if_pos ((nI_eq (by omega) (by omega)).mpr e), nI_1, nI_1]
      exact h
    · rw [if_neg e] at h
      rw [if_neg (fun z => e ((nI_eq (by omega) (by omega)).mp z)), nI_1]
      exact h
theorem twos_c {N wi cnt : Nat} {M : Mem} {f : Nat → Nat} (hN : 160 < N) (h1 : 1 ≤ wi) (h3 : wi ≤ 3) (hc : cnt ≤ 6) (hC : FI M wi 3 = nI cnt) (hf : ∀ q, q < cnt → f q < 64) (hM : ∀ q, q < cnt → FI M (slx wi q) 2 = nI (f q)) : ∀ (m fu p : Nat), m < fu → p + m = cnt →
    b_X4_twos_4 N M wi fu (nI (sumF (fun p => sumF (fun q => if f p = f q then 1 else 0) p) p)) (nI p) = some (nI (sumF (fun p => sumF (fun q => if f p = f q then 1 else 0) p) cnt)) := by
  intro m
  induction m with
  | zero =>
    intro fu p hf' hp
    obtain ⟨fu, rfl⟩ : ∃ z, fu = z + 1 := ⟨fu - 1, by omega⟩
    have : p = cnt := by omega
    subst this
    rw [b_X4_twos_4, hC, if_pos (nI_le (by omega) (by omega))]
  | succ m ih =>
    intro fu p hf' hp
    obtain ⟨fu, rfl⟩ : ∃ z, fu = z + 1 := ⟨fu - 1, by omega⟩
    rw [b_X4_twos_4, hC, if_neg (nI_ge (by omega) (by omega)), if_neg (show ¬ (6 : Int32) ≤ nI p from nI_ge (b := 6) (by omega) (by decide))]
    exact Eq.trans (tw_in_c (N := N) (k4 := b_X4_twos_4 N M wi fu) h1 h3 hc (show p < cnt by omega) hf hM p N 0 _ (by omega) (by omega)) (ih fu (p + 1) (by omega) (by omega))
/-- twos, counted to the right -/
theorem tw_in_r {N cnt p : Nat} {R : Mem} {f : Nat → Nat} {k4 : Int32 → Int32 → Option Int32} (hc : cnt ≤ 6) (hp : p < cnt) (hC : FI R 100 0 = nI cnt) (hf : ∀ q, q < cnt → f q < 64) (hM : ∀ q, q < cnt → AI R 103 (5 * q) = nI (f q)) : ∀ (m fu j base : Nat), m < fu → p + 1 + j + m = cnt →
    b_X6_twosNow_16 N R k4 fu (nI (base + sumF (fun j => if f p = f (p + 1 + j) then 1 else 0) j)) (nI p) (nI (p + 1 + j)) = k4 (nI (base + sumF (fun j => if f p = f (p + 1 + j) then 1 else 0) (cnt - (p + 1)))) (nI (p + 1)) := by
  intro m
  induction m with
  | zero =>
    intro fu j base hf' hq
    obtain ⟨fu, rfl⟩ : ∃ z, fu = z + 1 := ⟨fu - 1, by omega⟩
    have : cnt - (p + 1) = j := by omega
    rw [b_X6_twosNow_16, hC, if_pos (nI_le (by omega) (by omega)), nI_1, this]
  | succ m ih =>
    intro fu j base hf' hq
    obtain ⟨fu, rfl⟩ : ∃ z, fu = z + 1 := ⟨fu - 1, by omega⟩
    have e2 : sumF (fun j => if f p = f (p + 1 + j) then 1 else 0) (j + 1) = sumF (fun j => if f p = f (p + 1 + j) then 1 else 0) j + (if f p = f (p + 1 + j) then 1 else 0) := rfl
    have fp := hf p hp
    have fq := hf (p + 1 + j) (by omega)
    rw [b_X6_twosNow_16, hC, if_neg (nI_ge (by omega) (by omega)), show (5 : Int32) * nI p = nI (5 * p) from pk_mul 5 p, show (5 : Int32) * nI (p + 1 + j) = nI (5 * (p + 1 + j)) from pk_mul 5 _, gdn (n := len 103) (show 5 * p < 30 by omega) (by decide), gdn (n := len 103) (show 5 * (p + 1 + j) < 30 by omega) (by decide), nI_clamp (show 5 * p < 2 ^ 31 by omega), nI_clamp (show 5 * (p + 1 + j) < 2 ^ 31 by omega), hM p hp, hM (p + 1 + j) (by omega)]
    unfold b_X6_twosNow_49
    have h := ih fu (j + 1) base (by omega) (by omega)
    rw [e2] at h
    by_cases e : f p = f (p + 1 + j)
    · rw [if_pos e] at h
      rw [if_pos ((nI_eq (by omega) (by omega)).mpr e), nI_1, nI_1]
      exact h
    · rw [if_neg e] at h
      rw [if_neg (fun z => e ((nI_eq (by omega) (by omega)).mp z)), Int32.add_zero, nI_1]
      exact h
theorem twos_r {N cnt : Nat} {R : Mem} {f : Nat → Nat} (hN : 160 < N) (hc : cnt ≤ 6) (hC : FI R 100 0 = nI cnt) (hf : ∀ q, q < cnt → f q < 64) (hM : ∀ q, q < cnt → AI R 103 (5 * q) = nI (f q)) : ∀ (m fu p : Nat), m < fu → p + m = cnt →
    b_X6_twosNow_4 N R fu (nI (sumF (fun p => sumF (fun j => if f p = f (p + 1 + j) then 1 else 0) (cnt - (p + 1))) p)) (nI p) = some (nI (sumF (fun p => sumF (fun j => if f p = f (p + 1 + j) then 1 else 0) (cnt - (p + 1))) cnt)) := by
  intro m
  induction m with
  | zero =>
    intro fu p hf' hp
    obtain ⟨fu, rfl⟩ : ∃ z, fu = z + 1 := ⟨fu - 1, by omega⟩
    have : p = cnt := by omega
    subst this
    rw [b_X6_twosNow_4, hC, if_pos (nI_le (by omega) (by omega))]
  | succ m ih =>
    intro fu p hf' hp
    obtain ⟨fu, rfl⟩ : ∃ z, fu = z + 1 := ⟨fu - 1, by omega⟩
    rw [b_X6_twosNow_4, hC, if_neg (nI_ge (by omega) (by omega)), nI_1]
    exact Eq.trans (tw_in_r (N := N) (k4 := b_X6_twosNow_4 N R fu) hc (show p < cnt by omega) hC hf hM (cnt - (p + 1)) N 0 _ (by omega) (by omega)) (ih fu (p + 1) (by omega) (by omega))
theorem tw_eq (e : Nat → Nat → Nat) (hs : ∀ a b, e a b = e b a) {cnt : Nat} (hc : cnt ≤ 6) : sumF (fun p => sumF (fun q => e p q) p) cnt = sumF (fun p => sumF (fun j => e p (p + 1 + j)) (cnt - (p + 1))) cnt := by
  have h10 := hs 1 0
  have h20 := hs 2 0
  have h21 := hs 2 1
  have h30 := hs 3 0
  have h31 := hs 3 1
  have h32 := hs 3 2
  have h40 := hs 4 0
  have h41 := hs 4 1
  have h42 := hs 4 2
  have h43 := hs 4 3
  have h50 := hs 5 0
  have h51 := hs 5 1
  have h52 := hs 5 2
  have h53 := hs 5 3
  have h54 := hs 5 4
  have : cnt = 0 ∨ cnt = 1 ∨ cnt = 2 ∨ cnt = 3 ∨ cnt = 4 ∨ cnt = 5 ∨ cnt = 6 := by omega
  rcases this with rfl | rfl | rfl | rfl | rfl | rfl | rfl <;> simp only [sumF, Nat.reduceAdd, Nat.reduceSub] <;> omega
