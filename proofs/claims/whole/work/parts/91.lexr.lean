/-! L2: the reference's reader of tokens -/
def wk (k : Nat) : Nat := if k < 3 then k else if k < 9 then k + 3 else k - 6
def rk (w : Nat) : Nat := if w < 3 then w else if w < 6 then w + 6 else if w < 12 then w - 3 else 12
def teI (t : Nat) : Int32 := if t = 302 then 0 else if t = 300 then 1 else if t = 301 then 2 else if t = 200 ∨ t = 201 ∨ t = 202 then 3 else if t = 203 then 4 else if t = 204 then 5 else if t = 205 then 6 else if t = 303 then -1 else nI t
theorem wtab_w : ∀ k, k < 12 → ∀ c, c < 8 → wtab.getD (8 * k + c) 0 = if c < (wd (wk k)).length then (wd (wk k)).getD c 0 else 32 := by decide +kernel
theorem wtab_b : ∀ k, k < 96 → wtab.getD k 0 < 256 := by decide +kernel
theorem wk_lt : ∀ k, k < 12 → wk k < 12 ∧ rk (wk k) = k := by decide +kernel
theorem rk_lt : ∀ w, w < 12 → rk w < 12 ∧ wk (rk w) = w := by decide +kernel
theorem wd_let : ∀ w, w < 12 → ∀ i, i < 6 → i < (wd w).length → 97 ≤ (wd w).getD i 0 := by decide +kernel
/-- only the reader's own numbers are others -/
def Lr (R R' : Mem) : Prop := (∀ k, (k < 22 ∨ 25 < k) → FI R' 100 k = FI R 100 k) ∧ FJ R' = FJ R ∧ AI R' = AI R
theorem Lr.rf (R : Mem) : Lr R R := ⟨fun _ _ => rfl, rfl, rfl⟩
theorem Lr.tr {R R1 R2 : Mem} (h : Lr R R1) (g : Lr R1 R2) : Lr R R2 := ⟨fun k hk => (g.1 k hk).trans (h.1 k hk), g.2.1.trans h.2.1, g.2.2.trans h.2.2⟩
theorem Lr.fi (R : Mem) {k : Nat} (v : Int32) (h : 22 ≤ k ∧ k ≤ 25) : Lr R (sFI R 100 k v) := ⟨fun j hj => FI_n (by omega), rfl, rfl⟩
/-- the reference's tape and words -/
def Tr (R : Mem) (b : Nat → Nat) (n : Nat) : Prop := FI R 100 9 = nI n ∧ (∀ k, k < n → AI R 106 k = nI (b k)) ∧ ∀ k, k < 96 → AI R 115 k = nI (wtab.getD k 0)
theorem Tr.lr {R R' : Mem} {b : Nat → Nat} {n : Nat} (h : Tr R b n) (g : Lr R R') : Tr R' b n := ⟨(g.1 9 (by omega)).trans h.1, fun k hk => by rw [g.2.2]; exact h.2.1 k hk, fun k hk => by rw [g.2.2]; exact h.2.2 k hk⟩
def pdN (b : Nat → Nat) (s e j : Nat) : Nat := if s + j < e then b (s + j) else 32
def lk2 (f g : Nat → Nat) : Nat → Nat → Bool
  | 0, _ => true
  | m + 1, c => if f c = g c then lk2 f g m (c + 1) else false
theorem lk2_t {f g : Nat → Nat} : ∀ (m c : Nat), lk2 f g m c = true ↔ ∀ j, c ≤ j → j < c + m → f j = g j
  | 0, c => ⟨fun _ j h1 h2 => by omega, fun _ => rfl⟩
  | m + 1, c => by
    show (if f c = g c then lk2 f g m (c + 1) else false) = true ↔ _
    by_cases e : f c = g c
    · rw [if_pos e, lk2_t m (c + 1)]
      exact ⟨fun h j h1 h2 => by
        by_cases q : j = c
        · rw [q]; exact e
        · exact h j (by omega) (by omega), fun h j h1 h2 => h j (by omega) (by omega)⟩
    · rw [if_neg e]
      exact ⟨fun h => absurd h Bool.false_ne_true, fun h => absurd (h c (Nat.le_refl _) (by omega)) e⟩
theorem wf26_0 {N : Nat} {R : Mem} {x1 x2 x3 x5 : Int32} {k2 : Int32 → Option Int32} (fu : Nat) : b_X6_wordFrom_26 N R x1 x2 k2 (fu + 1) x3 0 x5 = k2 (x3 + 1) := by
  rw [b_X6_wordFrom_26]
  unfold b_X6_wordFrom_88
  rw [if_pos (show (0 : Int32) = 0 from rfl), if_pos (show (0 : Int32) = 0 from rfl), ite_self]
theorem wf26_1 {N n s e k : Nat} {R : Mem} {b : Nat → Nat} {k2 : Int32 → Option Int32} (hT : Tr R b n) (hn : n ≤ 160) (hb : ∀ k, k < n → b k < 256) (hk : k < 12) (hse : s ≤ e) (he : e ≤ n) : ∀ (m fu c : Nat), m + 1 < fu → c + m = 8 → b_X6_wordFrom_26 N R (nI s) (nI e) k2 fu (nI k) 1 (nI c) = if lk2 (fun c => wtab.getD (8 * k + c) 0) (pdN b s e) m c = true then some (nI k) else k2 (nI k + 1) := by
  intro m
  induction m with
  | zero =>
    intro fu c hf hc
    obtain ⟨fu, rfl⟩ : ∃ z, fu = z + 1 := ⟨fu - 1, by omega⟩
    have : c = 8 := by omega
    subst this
    rw [b_X6_wordFrom_26, if_pos (show (8 : Int32) ≤ nI 8 by decide)]
    unfold b_X6_wordFrom_88
    rw [if_neg (show ¬ (1 : Int32) = 0 by decide)]
    rfl
  | succ m ih =>
    intro fu c hf hc
    obtain ⟨fu, rfl⟩ : ∃ z, fu = z + 1 := ⟨fu - 1, by omega⟩
    obtain ⟨fu, rfl⟩ : ∃ z, fu = z + 1 := ⟨fu - 1, by omega⟩
    have w1 := wtab_b (8 * k + c) (by omega)
    have hpd : pdN b s e c < 256 := by
      unfold pdN
      split
      · exact hb _ (by omega)
      · decide
    have e72 : ∀ x : Nat, x = pdN b s e c → b_X6_wordFrom_72 N R (nI s) (nI e) k2 (b_X6_wordFrom_26 N R (nI s) (nI e) k2 (fu + 1)) (nI k) (nI c) (nI (wtab.getD (8 * k + c) 0)) (nI x) = if lk2 (fun c => wtab.getD (8 * k + c) 0) (pdN b s e) (m + 1) c = true then some (nI k) else k2 (nI k + 1) := by
      intro x hx
      subst hx
      unfold b_X6_wordFrom_72 b_X6_wordFrom_80
      rw [nI_1 c]
      rw [show lk2 (fun c => wtab.getD (8 * k + c) 0) (pdN b s e) (m + 1) c = (if wtab.getD (8 * k + c) 0 = pdN b s e c then lk2 (fun c => wtab.getD (8 * k + c) 0) (pdN b s e) m (c + 1) else false) from rfl]
      by_cases q : wtab.getD (8 * k + c) 0 = pdN b s e c
      · rw [if_pos q, if_pos ((nI_eq (by omega) (by omega)).mpr q)]
        exact ih (fu + 1) (c + 1) (by omega) (by omega)
      · rw [if_neg q, if_neg (fun z => q ((nI_eq (by omega) (by omega)).mp z)), wf26_0, if_neg Bool.false_ne_true]
    rw [b_X6_wordFrom_26, if_neg (show ¬ (8 : Int32) ≤ nI c from nI_ge (b := 8) (by omega) (by decide)), if_neg (show ¬ (1 : Int32) = 0 by decide), show (8 : Int32) * nI k + nI c = nI (8 * k + c) by rw [show (8 : Int32) * nI k = nI (8 * k) from pk_mul 8 k, nI_add], gdn (n := len 115) (show 8 * k + c < 96 by omega) (by decide), nI_add s c, itLe (by omega) (by omega), nI_clamp (show 8 * k + c < 2 ^ 31 by omega), hT.2.2 _ (by omega)]
    by_cases q : e ≤ s + c
    · rw [if_pos q]
      exact e72 32 (by unfold pdN; rw [if_neg (by omega)])
    · rw [if_neg q, gdn (n := len 106) (show s + c < 160 by omega) (by decide), nI_clamp (show s + c < 2 ^ 31 by omega), hT.2.1 _ (by omega)]
      exact e72 (b (s + c)) (by unfold pdN; rw [if_pos (by omega)])
theorem wf_seg {b : Nat → Nat} {s e k : Nat} (hk : k < 12) (hse : s ≤ e) (hL : ∀ i, s ≤ i → i < e → isL (b i) = true) : (e - s ≤ 8 ∧ lk2 (fun c => wtab.getD (8 * k + c) 0) (pdN b s e) 8 0 = true) ↔ seg b s e = wd (wk k) := by
  have hw := (wk_lt k hk).1
  have h6 := wd_len (wk k) hw
  rw [lk2_t, seg_eq]
  constructor
  · intro ⟨h1, h2⟩
    have h3 : ∀ j, j < (wd (wk k)).length → s + j < e ∧ b (s + j) = (wd (wk k)).getD j 0 := fun j hj => by
      have a := h2 j (by omega) (by omega)
      have a2 : wtab.getD (8 * k + j) 0 = pdN b s e j := a
      rw [wtab_w k hk j (by omega), if_pos hj] at a2
      have a3 := wd_let (wk k) hw j (by omega) hj
      unfold pdN at a2
      by_cases q : s + j < e
      · rw [if_pos q] at a2
        exact ⟨q, a2.symm⟩
      · rw [if_neg q] at a2
        omega
    refine ⟨?_, fun i hi => (h3 i hi).2⟩
    have h4 : ¬ (wd (wk k)).length < e - s := fun q => by
      have a := h2 (wd (wk k)).length (by omega) (by omega)
      have a2 : wtab.getD (8 * k + (wd (wk k)).length) 0 = pdN b s e (wd (wk k)).length := a
      rw [wtab_w k hk _ (by omega), if_neg (Nat.lt_irrefl _)] at a2
      unfold pdN at a2
      rw [if_pos (by omega)] at a2
      have a3 : 97 ≤ b (s + (wd (wk k)).length) ∧ _ := of_decide_eq_true (hL (s + (wd (wk k)).length) (by omega) (by omega))
      omega
    by_cases h0 : (wd (wk k)).length = 0
    · omega
    · have := (h3 ((wd (wk k)).length - 1) (by omega)).1
      omega
  · intro ⟨h1, h2⟩
    refine ⟨by omega, fun j _ hj => ?_⟩
    show wtab.getD (8 * k + j) 0 = pdN b s e j
    rw [wtab_w k hk j (by omega)]
    unfold pdN
    by_cases q : j < (wd (wk k)).length
    · rw [if_pos q, if_pos (by omega), h2 j q]
    · rw [if_neg q, if_neg (by omega)]
theorem wordFrom_r {N n s e : Nat} {R : Mem} {b : Nat → Nat} (hN : 160 < N) (hT : Tr R b n) (hn : n ≤ 160) (hb : ∀ k, k < n → b k < 256) (hse : s ≤ e) (he : e ≤ n) (hL : ∀ i, s ≤ i → i < e → isL (b i) = true) : ∀ (m fu k : Nat), m < fu → k + m = 12 → (∀ j, j < k → seg b s e ≠ wd (wk j)) → b_X6_wordFrom_2 N R (nI s) (nI e) fu (nI k) = some (nI (rk (wIx (seg b s e)))) := by
  intro m
  induction m with
  | zero =>
    intro fu k hf hk hno
    obtain ⟨fu, rfl⟩ : ∃ z, fu = z + 1 := ⟨fu - 1, by omega⟩
    have : k = 12 := by omega
    subst this
    rw [b_X6_wordFrom_2, if_pos (show (12 : Int32) ≤ nI 12 by decide)]
    have hle := wIx_le (seg b s e)
    have : wIx (seg b s e) = 12 := by
      by_cases q : wIx (seg b s e) < 12
      · have h1 := wIx_eq (l := seg b s e) rfl q
        have h2 := rk_lt _ q
        exact absurd (by rw [h2.2]; exact h1) (hno _ h2.1)
      · omega
    rw [this]
    rfl
  | succ m ih =>
    intro fu k hf hk hno
    obtain ⟨fu, rfl⟩ : ∃ z, fu = z + 1 := ⟨fu - 1, by omega⟩
    have hwk := wk_lt k (by omega)
    have hws := wf_seg (k := k) (by omega) hse hL
    rw [b_X6_wordFrom_2, if_neg (show ¬ (12 : Int32) ≤ nI k from nI_ge (b := 12) (by omega) (by decide)), pk_sub hse]
    unfold b_X6_wordFrom_21
    have miss : ¬ seg b s e = wd (wk k) → b_X6_wordFrom_2 N R (nI s) (nI e) fu (nI k + 1) = some (nI (rk (wIx (seg b s e)))) := fun q => by
      rw [nI_1]
      exact ih fu (k + 1) (by omega) (by omega) (fun j hj => by
        by_cases e2 : j = k
        · rw [e2]; exact q
        · exact hno j (by omega))
    by_cases q : e - s ≤ 8
    · rw [if_neg (show ¬ (8 : Int32) < nI (e - s) from nI_nlt (a := 8) q (by decide)), show ((0 : Int32)) = nI 0 from rfl, wf26_1 hT hn hb (by omega) hse he 8 N 0 (by omega) (by omega)]
      by_cases q2 : lk2 (fun c => wtab.getD (8 * k + c) 0) (pdN b s e) 8 0 = true
      · rw [if_pos q2, wIx_of hwk.1 (hws.mp ⟨q, q2⟩), hwk.2]
      · rw [if_neg q2]
        exact miss (fun z => q2 (hws.mpr z).2)
    · rw [if_pos (show (8 : Int32) < nI (e - s) from nI_lt (a := 8) (by omega) (by omega))]
      obtain ⟨f2, rfl⟩ : ∃ z, N = z + 1 := ⟨N - 1, by omega⟩
      rw [wf26_0]
      exact miss (fun z => q (hws.mpr z).1)
theorem inL_r {c : Nat} (hc : c < 256) (R : Mem) : f_X6_in (nI c) 97 122 R = some (isL c) := in_n (k := c) (a := 97) (b := 122) (by omega) (by decide) (by decide) R
theorem inD_r {c : Nat} (hc : c < 256) (R : Mem) : f_X6_in (nI c) 48 57 R = some (isD c) := in_n (k := c) (a := 48) (b := 57) (by omega) (by decide) (by decide) R
/-- what the reference's token and its worth are -/
def tvR (R : Mem) (t v : Nat) : Prop := FI R 100 24 = teI t ∧ ((t = 300 ∨ t = 301) → FI R 100 25 = nI v) ∧ ((t = 200 ∨ t = 201 ∨ t = 202) → FI R 100 25 = nI (t - 200))
theorem word_t {b : Nat → Nat} {n s w : Nat} (hs : s < n) (q : isL (b s) = true) (hw : wIx (seg b s (rn isL b n s)) = w) : tkS b n s = (if w < 6 then 200 + w else if w < 12 then 301 else 303) := by
  unfold tkS
  rw [if_pos hs, if_pos q]
  dsimp only
  rw [hw]
theorem word_r {N n s : Nat} {b : Nat → Nat} (hN : 160 < N) (hn : n ≤ 160) (hb : ∀ k, k < n → b k < 256) (hsn : s < n) (hq : isL (b s) = true) : ∀ (m fu a : Nat) (R : Mem), m < fu → a + m = n → s ≤ a → rn isL b n a = rn isL b n s → Tr R b n → FI R 100 22 = nI a → FI R 100 23 = nI s →
    ∃ R', b_X6_next_103 N fu R = some R' ∧ Lr R R' ∧ FI R' 100 22 = nI (rn isL b n s) ∧ FI R' 100 23 = nI s ∧ tvR R' (tkS b n s) (vlS b n s) := by
  intro m
  obtain ⟨g1, g2, g3⟩ := rn_bd (p := isL) (b := b) (n := n) (n - s) s (by omega)
  have fin : ∀ (a : Nat) (R : Mem), a ≤ n → rn isL b n a = a → rn isL b n a = rn isL b n s → Tr R b n → FI R 100 22 = nI a → FI R 100 23 = nI s → ∃ R', b_X6_next_146 N R = some R' ∧ Lr R R' ∧ FI R' 100 22 = nI (rn isL b n s) ∧ FI R' 100 23 = nI s ∧ tvR R' (tkS b n s) (vlS b n s) := by
    intro a R ha hr hre hT h22 h23
    have ea : a = rn isL b n s := hr.symm.trans hre
    rw [ea] at h22
    have hwf : f_X6_wordFrom N (nI s) (nI (rn isL b n s)) R = some (nI (rk (wIx (seg b s (rn isL b n s))))) := wordFrom_r hN hT hn hb g1 g2 g3 12 N 0 (by omega) (by omega) (fun j hj => by omega)
    have hle := wIx_le (seg b s (rn isL b n s))
    have ht := word_t (n := n) hsn hq rfl
    have hv : vlS b n s = wIx (seg b s (rn isL b n s)) - 6 := by unfold vlS; rw [if_pos hq]
    unfold b_X6_next_146
    rw [h22, h23, hwf, bind_some_, ht, hv]
    generalize wIx (seg b s (rn isL b n s)) = w at hle
    unfold b_X6_next_195 b_X6_next_198 b_X6_next_211
    have fl : ∀ v1 v2 : Int32, ∃ R', some (sFI (sFI R 100 24 v1) 100 25 v2) = some R' ∧ Lr R R' ∧ FI R' 100 22 = nI (rn isL b n s) ∧ FI R' 100 23 = nI s ∧ FI R' 100 24 = v1 ∧ FI R' 100 25 = v2 := fun v1 v2 => ⟨_, rfl, (Lr.fi R _ (by omega)).tr (Lr.fi _ _ (by omega)), (FI_n (by decide)).trans ((FI_n (by decide)).trans h22), (FI_n (by decide)).trans ((FI_n (by decide)).trans h23), (FI_n (by decide)).trans FI_s, FI_s⟩
    by_cases w3 : w < 3
    · have e : rk w = w := by unfold rk; rw [if_pos w3]
      rw [e, if_neg (show ¬ (3 : Int32) ≤ nI w from nI_ge (b := 3) w3 (by decide)), if_neg (show ¬ (3 : Int32) ≤ nI w from nI_ge (b := 3) w3 (by decide)), if_pos (show w < 6 by omega)]
      obtain ⟨R', a1, a2, a3, a4, a5, a6⟩ := fl 3 (nI w)
      refine ⟨R', a1, a2, a3, a4, ?_, fun z => by omega, fun _ => by rw [a6, show 200 + w - 200 = w by omega]⟩
      rw [a5]
      unfold teI
      rw [if_neg (by omega), if_neg (by omega), if_neg (by omega), if_pos (by omega)]
    · by_cases w6 : w < 6
      · have e : rk w = w + 6 := by unfold rk; rw [if_neg w3, if_pos w6]
        rw [e, if_pos (show (3 : Int32) ≤ nI (w + 6) from nI_le (a := 3) (by omega) (by omega)), if_pos (show (9 : Int32) ≤ nI (w + 6) from nI_le (a := 9) (by omega) (by omega)), if_neg (show ¬ nI (w + 6) = (12 : Int32) from neL (n := 12) (by omega) (by decide) (by omega)), if_pos (show (3 : Int32) ≤ nI (w + 6) from nI_le (a := 3) (by omega) (by omega)), if_pos w6]
        obtain ⟨R', a1, a2, a3, a4, a5, a6⟩ := fl ((4 : Int32) + nI (w + 6) - 9) (nI (w + 6) - 3)
        refine ⟨R', a1, a2, a3, a4, ?_, fun z => by omega, fun z => by omega⟩
        rw [a5]
        have e2 : w = 3 ∨ w = 4 ∨ w = 5 := by omega
        rcases e2 with rfl | rfl | rfl <;> decide
      · by_cases w12 : w < 12
        · have e : rk w = w - 3 := by unfold rk; rw [if_neg w3, if_neg w6, if_pos w12]
          rw [e, if_pos (show (3 : Int32) ≤ nI (w - 3) from nI_le (a := 3) (by omega) (by omega)), if_neg (show ¬ (9 : Int32) ≤ nI (w - 3) from nI_ge (b := 9) (by omega) (by decide)), if_pos (show (3 : Int32) ≤ nI (w - 3) from nI_le (a := 3) (by omega) (by omega)), if_neg w6, if_pos w12]
          obtain ⟨R', a1, a2, a3, a4, a5, a6⟩ := fl 2 (nI (w - 3) - 3)
          refine ⟨R', a1, a2, a3, a4, ?_, fun _ => ?_, fun z => by omega⟩
          · rw [a5]; rfl
          · rw [a6, lk_3, pk_sub (by omega), show w - 3 - 3 = w - 6 by omega]
        · have ew : w = 12 := by omega
          subst ew
          rw [show rk 12 = 12 from rfl, if_pos (show (3 : Int32) ≤ nI 12 by decide), if_pos (show (9 : Int32) ≤ nI 12 by decide), if_pos (show nI 12 = (12 : Int32) from rfl), if_pos (show (3 : Int32) ≤ nI 12 by decide), if_neg (show ¬ 12 < 6 by decide), if_neg (show ¬ 12 < 12 by decide)]
          obtain ⟨R', a1, a2, a3, a4, a5, a6⟩ := fl (-1) (nI 12 - 3)
          exact ⟨R', a1, a2, a3, a4, a5, fun z => by omega, fun z => by omega⟩
  induction m with
  | zero =>
    intro fu a R hf ha hs hre hT h22 h23
    obtain ⟨fu, rfl⟩ : ∃ z, fu = z + 1 := ⟨fu - 1, by omega⟩
    rw [b_X6_next_103, hT.1, h22, if_pos (nI_le (by omega) (by omega))]
    exact fin a R (by omega) (rn_f (by omega)) hre hT h22 h23
  | succ m ih =>
    intro fu a R hf ha hs hre hT h22 h23
    obtain ⟨fu, rfl⟩ : ∃ z, fu = z + 1 := ⟨fu - 1, by omega⟩
    rw [b_X6_next_103, hT.1, h22, if_neg (nI_ge (by omega) (by omega)), gdn (n := len 106) (show a < 160 by omega) (by decide), nI_clamp (by omega), hT.2.1 a (by omega), inL_r (hb a (by omega)), bind_some_]
    by_cases q : isL (b a) = true
    · rw [if_pos q]
      unfold b_X6_next_143
      rw [nI_1]
      have lr : Lr R (sFI R 100 22 (nI (a + 1))) := Lr.fi R _ (by omega)
      obtain ⟨R', a1, a2, a3⟩ := ih fu (a + 1) (sFI R 100 22 (nI (a + 1))) (by omega) (by omega) (by omega) (by rw [← rn_t (by omega) q]; exact hre) (hT.lr lr) FI_s ((FI_n (by decide)).trans h23)
      exact ⟨R', a1, lr.tr a2, a3⟩
    · rw [if_neg q]
      exact fin a R (by omega) (rn_f (fun z => q z.2)) hre hT h22 h23
theorem num_r {N n s : Nat} {b : Nat → Nat} (hN : 160 < N) (hn : n ≤ 160) (hb : ∀ k, k < n → b k < 256) (hsn : s < n) (hq : isL (b s) = false) (hd : isD (b s) = true) : ∀ (m fu k : Nat) (R : Mem), m < fu → s + k + m = n → rn isD b n (s + k) = rn isD b n s → Tr R b n → FI R 100 22 = nI (s + k) → FI R 100 23 = nI s → (k ≤ 4 → FI R 100 25 = nI (nuN b s k)) →
    ∃ R', b_X6_next_230 N fu (nI k) R = some R' ∧ Lr R R' ∧ FI R' 100 22 = nI (rn isD b n s) ∧ FI R' 100 23 = nI s ∧ tvR R' (tkS b n s) (vlS b n s) := by
  intro m
  have hq' : ¬ isL (b s) = true := by rw [hq]; exact Bool.false_ne_true
  have fin : ∀ (k : Nat) (R : Mem), s + k ≤ n → rn isD b n (s + k) = s + k → rn isD b n (s + k) = rn isD b n s → FI R 100 22 = nI (s + k) → FI R 100 23 = nI s → (k ≤ 4 → FI R 100 25 = nI (nuN b s k)) → ∃ R', b_X6_next_309 N (nI k) R = some R' ∧ Lr R R' ∧ FI R' 100 22 = nI (rn isD b n s) ∧ FI R' 100 23 = nI s ∧ tvR R' (tkS b n s) (vlS b n s) := by
    intro k R hk hr hre h22 h23 h25
    have ea : rn isD b n s = s + k := hre.symm.trans hr
    have ht : tkS b n s = if k ≤ 4 then 300 else 303 := by
      unfold tkS
      rw [if_pos hsn, if_neg hq', if_pos hd, ea, show s + k - s = k by omega]
    have hv : vlS b n s = nuN b s k := by
      unfold vlS
      rw [if_neg hq', ea, show s + k - s = k by omega]
    unfold b_X6_next_309 b_X6_next_320
    rw [ea, ht, hv]
    by_cases q : k ≤ 4
    · rw [if_pos (show nI k ≤ (4 : Int32) from nI_le (b := 4) q (by decide)), if_pos q]
      exact ⟨_, rfl, Lr.fi R _ (by omega), (FI_n (by decide)).trans h22, (FI_n (by decide)).trans h23, FI_s, fun _ => (FI_n (by decide)).trans (h25 q), fun z => by omega⟩
    · rw [if_neg (show ¬ nI k ≤ (4 : Int32) from nI_ge (a := 4) (by omega) (by omega)), if_neg q]
      exact ⟨_, rfl, Lr.fi R _ (by omega), (FI_n (by decide)).trans h22, (FI_n (by decide)).trans h23, FI_s, fun z => by omega, fun z => by omega⟩
  induction m with
  | zero =>
    intro fu k R hf hk hre hT h22 h23 h25
    obtain ⟨fu, rfl⟩ : ∃ z, fu = z + 1 := ⟨fu - 1, by omega⟩
    rw [b_X6_next_230, hT.1, h22, if_pos (nI_le (by omega) (by omega))]
    exact fin k R (by omega) (rn_f (by omega)) hre h22 h23 h25
  | succ m ih =>
    intro fu k R hf hk hre hT h22 h23 h25
    obtain ⟨fu, rfl⟩ : ∃ z, fu = z + 1 := ⟨fu - 1, by omega⟩
    rw [b_X6_next_230, hT.1, h22, if_neg (nI_ge (by omega) (by omega)), gdn (n := len 106) (show s + k < 160 by omega) (by decide), gdn (n := len 106) (show s + k < 160 by omega) (by decide), nI_clamp (by omega), hT.2.1 (s + k) (by omega), inD_r (hb (s + k) (by omega)), bind_some_]
    by_cases q : isD (b (s + k)) = true
    · have hdd : 48 ≤ b (s + k) ∧ b (s + k) ≤ 57 := of_decide_eq_true q
      rw [if_pos q]
      have go : ∀ v : Int32, (k + 1 ≤ 4 → v = nI (nuN b s (k + 1))) → ∃ R', b_X6_next_290 N (b_X6_next_230 N fu) (nI k) v R = some R' ∧ Lr R R' ∧ FI R' 100 22 = nI (rn isD b n s) ∧ FI R' 100 23 = nI s ∧ tvR R' (tkS b n s) (vlS b n s) := by
        intro v hv
        unfold b_X6_next_290 b_X6_next_293 b_X6_next_306
        rw [FI_n (by decide), h22, nI_1, nI_1]
        have lr : Lr R (sFI (sFI R 100 25 v) 100 22 (nI (s + k + 1))) := (Lr.fi R _ (by omega)).tr (Lr.fi _ _ (by omega))
        obtain ⟨R', a1, a2, a3⟩ := ih fu (k + 1) (sFI (sFI R 100 25 v) 100 22 (nI (s + k + 1))) (by omega) (by omega) (by rw [show s + (k + 1) = s + k + 1 by omega, ← rn_t (by omega) q]; exact hre) (hT.lr lr) FI_s ((FI_n (by decide)).trans ((FI_n (by decide)).trans h23)) (fun h4 => by rw [FI_n (by decide), FI_s]; exact hv h4)
        exact ⟨R', a1, lr.tr a2, a3⟩
      by_cases k4 : 4 ≤ k
      · rw [if_pos (show (4 : Int32) ≤ nI k from nI_le (a := 4) k4 (by omega))]
        exact go 0 (fun z => by omega)
      · rw [if_neg (show ¬ (4 : Int32) ≤ nI k from nI_ge (b := 4) (by omega) (by decide)), h25 (by omega)]
        refine go _ (fun _ => ?_)
        rw [lk_10, pk_mul, nI_add, lk_48, pk_sub (by omega)]
        show nI _ = nI (10 * nuN b s k + (b (s + k) - 48))
        congr 1
        omega
    · rw [if_neg q]
      exact fin k R (by omega) (rn_f (fun z => q z.2)) hre h22 h23 h25
theorem sign_r {N : Nat} {R : Mem} : ∀ c, c < 256 → (if nI c = (40 : Int32) then b_X6_next_374 N (nI c) R else (if nI c = (41 : Int32) then b_X6_next_374 N (nI c) R else (if nI c = (59 : Int32) then b_X6_next_374 N (nI c) R else (if nI c = (43 : Int32) then b_X6_next_374 N (nI c) R else (if nI c = (45 : Int32) then b_X6_next_374 N (nI c) R else (if nI c = (42 : Int32) then b_X6_next_374 N (nI c) R else (if nI c = (60 : Int32) then b_X6_next_374 N (nI c) R else (if nI c = (61 : Int32) then b_X6_next_374 N (nI c) R else b_X6_next_379 N (nI c) (0 : Int32) R)))))))) = b_X6_next_390 N (if isS c = true then nI c else -1) R := by
  intro c hc
  have e : ∀ k : Nat, k < 256 → (nI c = nI k ↔ c = k) := fun k hk => nI_eq (by omega) (by omega)
  unfold b_X6_next_374 b_X6_next_379
  rw [if_neg (show ¬ (1 : Int32) = 0 by decide), if_pos (show (0 : Int32) = 0 from rfl)]
  by_cases h40 : c = 40
  · subst h40; rfl
  rw [if_neg (show ¬ nI c = (40 : Int32) from fun z => h40 ((e 40 (by decide)).mp z))]
  by_cases h41 : c = 41
  · subst h41; rfl
  rw [if_neg (show ¬ nI c = (41 : Int32) from fun z => h41 ((e 41 (by decide)).mp z))]
  by_cases h59 : c = 59
  · subst h59; rfl
  rw [if_neg (show ¬ nI c = (59 : Int32) from fun z => h59 ((e 59 (by decide)).mp z))]
  by_cases h43 : c = 43
  · subst h43; rfl
  rw [if_neg (show ¬ nI c = (43 : Int32) from fun z => h43 ((e 43 (by decide)).mp z))]
  by_cases h45 : c = 45
  · subst h45; rfl
  rw [if_neg (show ¬ nI c = (45 : Int32) from fun z => h45 ((e 45 (by decide)).mp z))]
  by_cases h42 : c = 42
  · subst h42; rfl
  rw [if_neg (show ¬ nI c = (42 : Int32) from fun z => h42 ((e 42 (by decide)).mp z))]
  by_cases h60 : c = 60
  · subst h60; rfl
  rw [if_neg (show ¬ nI c = (60 : Int32) from fun z => h60 ((e 60 (by decide)).mp z))]
  by_cases h61 : c = 61
  · subst h61; rfl
  rw [if_neg (show ¬ nI c = (61 : Int32) from fun z => h61 ((e 61 (by decide)).mp z)), if_neg (show ¬ isS c = true from fun z => by
    have := isS_c z
    omega)]
/-- the reference reads the next token -/
theorem next_r {N n : Nat} {b : Nat → Nat} (hN : 160 < N) (hn : n ≤ 160) (hb : ∀ k, k < n → b k < 256) : ∀ (m fu a : Nat) (R : Mem), m < fu → a + m = n → Tr R b n → FI R 100 22 = nI a →
    ∃ R', b_X6_next_0 N fu R = some R' ∧ Lr R R' ∧ FI R' 100 22 = nI (nxA b n a) ∧ FI R' 100 23 = nI (stA b n a) ∧ tvR R' (tkA b n a) (vlA b n a) := by
  intro m
  have fin : ∀ (a : Nat) (R : Mem), a ≤ n → stA b n a = a → Tr R b n → FI R 100 22 = nI a → ∃ R', b_X6_next_52 N R = some R' ∧ Lr R R' ∧ FI R' 100 22 = nI (nxA b n a) ∧ FI R' 100 23 = nI (stA b n a) ∧ tvR R' (tkA b n a) (vlA b n a) := by
    intro a R ha hst hT h22
    have lr0 : Lr R (sFI (sFI (sFI R 100 23 (nI a)) 100 24 0) 100 25 0) := ((Lr.fi R _ (by omega)).tr (Lr.fi _ _ (by omega))).tr (Lr.fi _ _ (by omega))
    unfold b_X6_next_52 b_X6_next_60 b_X6_next_65
    rw [h22]
    have e22 : FI (sFI (sFI (sFI R 100 23 (nI a)) 100 24 0) 100 25 0) 100 22 = nI a := by rw [FI_n (by decide), FI_n (by decide), FI_n (by decide)]; exact h22
    have e23 : FI (sFI (sFI (sFI R 100 23 (nI a)) 100 24 0) 100 25 0) 100 23 = nI a := by rw [FI_n (by decide), FI_n (by decide), FI_s]
    have e24 : FI (sFI (sFI (sFI R 100 23 (nI a)) 100 24 0) 100 25 0) 100 24 = 0 := by rw [FI_n (by decide), FI_s]
    have e25 : FI (sFI (sFI (sFI R 100 23 (nI a)) 100 24 0) 100 25 0) 100 25 = 0 := FI_s
    have hT1 := hT.lr lr0
    generalize sFI (sFI (sFI R 100 23 (nI a)) 100 24 0) 100 25 0 = S at lr0 e22 e23 e24 e25 hT1 ⊢
    unfold b_X6_next_70 nxA tkA vlA
    rw [hst, e22, hT1.1]
    by_cases han : a < n
    · have hba := hb a han
      rw [if_neg (fun z => by
        have := (nI_eq (by omega) (by omega)).mp z
        omega), gdn (n := len 106) (show a < 160 by omega) (by decide), nI_clamp (by omega), hT1.2.1 a han, inL_r hba, bind_some_]
      by_cases q : isL (b a) = true
      · rw [if_pos q]
        obtain ⟨R', a1, a2, a3, a4, a5⟩ := word_r (N := N) (s := a) hN hn hb han q (n - a) N a S (by omega) (by omega) (by omega) rfl hT1 e22 e23
        refine ⟨R', a1, lr0.tr a2, ?_, a4, a5⟩
        rw [a3]
        unfold enS
        rw [if_pos han, if_pos q]
      · rw [if_neg q, inD_r hba, bind_some_]
        by_cases q2 : isD (b a) = true
        · rw [if_pos q2]
          obtain ⟨R', a1, a2, a3, a4, a5⟩ := num_r (N := N) (s := a) hN hn hb han (by rw [Bool.not_eq_true] at q; exact q) q2 (n - a) N 0 S (by omega) (by omega) rfl hT1 e22 e23 (fun _ => e25)
          refine ⟨R', a1, lr0.tr a2, ?_, a4, a5⟩
          rw [a3]
          unfold enS
          rw [if_pos han, if_neg q, if_pos q2]
        · rw [if_neg q2, sign_r (b a) hba]
          unfold b_X6_next_390 b_X6_next_393
          rw [FI_n (by decide), e22, nI_1]
          refine ⟨_, rfl, (lr0.tr (Lr.fi _ _ (by omega))).tr (Lr.fi _ _ (by omega)), ?_, (FI_n (by decide)).trans ((FI_n (by decide)).trans e23), ?_⟩
          · unfold enS
            rw [if_pos han, if_neg q, if_neg q2]
            exact FI_s
          · unfold tkS
            rw [if_pos han, if_neg q, if_neg q2]
            by_cases q3 : isS (b a) = true
            · rw [if_pos q3, if_pos q3]
              have h := isS_c q3
              refine ⟨?_, fun z => by omega, fun z => by omega⟩
              rw [FI_n (by decide), FI_s]
              unfold teI
              rw [if_neg (by omega), if_neg (by omega), if_neg (by omega), if_neg (by omega), if_neg (by omega), if_neg (by omega), if_neg (by omega), if_neg (by omega)]
            · rw [if_neg q3, if_neg q3]
              exact ⟨(FI_n (by decide)).trans FI_s, fun z => by omega, fun z => by omega⟩
    · have : a = n := by omega
      subst this
      rw [if_pos rfl]
      refine ⟨S, rfl, lr0, ?_, e23, ?_⟩
      · unfold enS
        rw [if_neg han]
        exact e22
      · unfold tkS
        rw [if_neg han]
        exact ⟨e24, fun z => by omega, fun z => by omega⟩
  induction m with
  | zero =>
    intro fu a R hf ha hT h22
    obtain ⟨fu, rfl⟩ : ∃ z, fu = z + 1 := ⟨fu - 1, by omega⟩
    rw [b_X6_next_0, hT.1, h22, if_pos (nI_le (by omega) (by omega))]
    exact fin a R (by omega) (rn_f (by omega)) hT h22
  | succ m ih =>
    intro fu a R hf ha hT h22
    obtain ⟨fu, rfl⟩ : ∃ z, fu = z + 1 := ⟨fu - 1, by omega⟩
    have han : a < n := by omega
    have hba := hb a han
    have e39 : b_X6_next_39 N (b_X6_next_0 N fu) R = b_X6_next_0 N fu (sFI R 100 22 (nI (a + 1))) := by
      unfold b_X6_next_39 b_X6_next_49
      rw [h22, nI_1]
    have lr : Lr R (sFI R 100 22 (nI (a + 1))) := Lr.fi R _ (by omega)
    have go : isB (b a) = true → ∃ R', b_X6_next_0 N fu (sFI R 100 22 (nI (a + 1))) = some R' ∧ Lr R R' ∧ FI R' 100 22 = nI (nxA b n a) ∧ FI R' 100 23 = nI (stA b n a) ∧ tvR R' (tkA b n a) (vlA b n a) := by
      intro hq
      have e : stA b n a = stA b n (a + 1) := rn_t han hq
      unfold nxA tkA vlA
      rw [e]
      obtain ⟨R', a1, a2, a3⟩ := ih fu (a + 1) (sFI R 100 22 (nI (a + 1))) (by omega) (by omega) (hT.lr lr) FI_s
      exact ⟨R', a1, lr.tr a2, a3⟩
    rw [b_X6_next_0, hT.1, h22, if_neg (nI_ge (by omega) (by omega)), gdn (n := len 106) (show a < 160 by omega) (by decide), gdn (n := len 106) (show a < 160 by omega) (by decide), nI_clamp (by omega), hT.2.1 a han, e39, show (32 : Int32) = nI 32 from rfl, show (10 : Int32) = nI 10 from rfl, itEq (by omega) (by decide), itEq (by omega) (by decide)]
    by_cases q : b a = 32
    · rw [if_pos q]
      exact go (decide_eq_true (Or.inl q))
    · rw [if_neg q]
      by_cases q2 : b a = 10
      · rw [if_pos q2]
        exact go (decide_eq_true (Or.inr q2))
      · rw [if_neg q2]
        exact fin a R (by omega) (rn_f (fun z => by
          have := of_decide_eq_true z.2
          omega)) hT h22
