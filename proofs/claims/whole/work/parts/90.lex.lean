/-! L2: the tokens of a tape; the class' reader of them -/
/-- from a on as long as p holds -/
def skp (p : Nat → Bool) (b : Nat → Nat) (n : Nat) : Nat → Nat → Nat
  | 0, a => a
  | f + 1, a => if a < n ∧ p (b a) = true then skp p b n f (a + 1) else a
def rn (p : Nat → Bool) (b : Nat → Nat) (n a : Nat) : Nat := skp p b n (n - a) a
theorem rn_t {p : Nat → Bool} {b : Nat → Nat} {n a : Nat} (h : a < n) (hp : p (b a) = true) : rn p b n a = rn p b n (a + 1) := by
  unfold rn
  rw [show n - a = (n - (a + 1)) + 1 by omega]
  show (if a < n ∧ p (b a) = true then _ else _) = _
  rw [if_pos ⟨h, hp⟩]
theorem rn_f {p : Nat → Bool} {b : Nat → Nat} {n a : Nat} (h : ¬ (a < n ∧ p (b a) = true)) : rn p b n a = a := by
  unfold rn
  cases hk : n - a with
  | zero => rfl
  | succ k =>
    show (if a < n ∧ p (b a) = true then _ else _) = _
    rw [if_neg h]
theorem rn_bd {p : Nat → Bool} {b : Nat → Nat} {n : Nat} : ∀ (m a : Nat), a + m = n → a ≤ rn p b n a ∧ rn p b n a ≤ n ∧ ∀ i, a ≤ i → i < rn p b n a → p (b i) = true
  | 0, a, h => by
    rw [rn_f (by omega)]
    exact ⟨Nat.le_refl _, by omega, fun i h1 h2 => by omega⟩
  | m + 1, a, h => by
    by_cases hp : p (b a) = true
    · rw [rn_t (by omega) hp]
      obtain ⟨h1, h2, h3⟩ := rn_bd (p := p) (b := b) (n := n) m (a + 1) (by omega)
      refine ⟨by omega, h2, fun i h4 h5 => ?_⟩
      by_cases e : i = a
      · rw [e]; exact hp
      · exact h3 i (by omega) h5
    · rw [rn_f (fun q => hp q.2)]
      exact ⟨Nat.le_refl _, by omega, fun i h1 h2 => by omega⟩
def isB (c : Nat) : Bool := decide (c = 32 ∨ c = 10)
def isL (c : Nat) : Bool := decide (97 ≤ c ∧ c ≤ 122)
def isD (c : Nat) : Bool := decide (48 ≤ c ∧ c ≤ 57)
def isS (c : Nat) : Bool := decide (c = 40 ∨ c = 41 ∨ c = 59 ∨ c = 43 ∨ c = 45 ∨ c = 42 ∨ c = 60 ∨ c = 61)
/-- the words, by the class' numbers -/
def WL : List (List Nat) := [[103, 111, 101, 115], [109, 105, 110, 100, 115], [119, 101, 97, 114, 115], [111, 114], [97, 110, 100], [110, 111, 116], [115, 116, 105, 116, 99, 104], [99, 111, 108, 117, 109, 110], [114, 111, 119], [119, 101, 116], [119, 111, 111, 108], [109, 111, 114, 101]]
def wd (w : Nat) : List Nat := WL.getD w []
def seg (b : Nat → Nat) (s e : Nat) : List Nat := (List.range (e - s)).map fun i => b (s + i)
/-- which word; 12: none -/
def wIx (l : List Nat) : Nat := if l = wd 0 then 0 else if l = wd 1 then 1 else if l = wd 2 then 2 else if l = wd 3 then 3 else if l = wd 4 then 4 else if l = wd 5 then 5 else if l = wd 6 then 6 else if l = wd 7 then 7 else if l = wd 8 then 8 else if l = wd 9 then 9 else if l = wd 10 then 10 else if l = wd 11 then 11 else 12
def nuN (b : Nat → Nat) (s : Nat) : Nat → Nat
  | 0 => 0
  | k + 1 => 10 * nuN b s k + (b (s + k) - 48)
/-- the token read from a on: where it begins, what it is, its worth, where it ends -/
def stA (b : Nat → Nat) (n a : Nat) : Nat := rn isB b n a
def tkS (b : Nat → Nat) (n s : Nat) : Nat := if s < n then (if isL (b s) = true then (let w := wIx (seg b s (rn isL b n s)); if w < 6 then 200 + w else if w < 12 then 301 else 303) else if isD (b s) = true then (if rn isD b n s - s ≤ 4 then 300 else 303) else if isS (b s) = true then b s else 303) else 302
def vlS (b : Nat → Nat) (n s : Nat) : Nat := if isL (b s) = true then wIx (seg b s (rn isL b n s)) - 6 else nuN b s (rn isD b n s - s)
def enS (b : Nat → Nat) (n s : Nat) : Nat := if s < n then (if isL (b s) = true then rn isL b n s else if isD (b s) = true then rn isD b n s else s + 1) else s
def tkA (b : Nat → Nat) (n a : Nat) : Nat := tkS b n (stA b n a)
def vlA (b : Nat → Nat) (n a : Nat) : Nat := vlS b n (stA b n a)
def nxA (b : Nat → Nat) (n a : Nat) : Nat := enS b n (stA b n a)
theorem stA_bd {b : Nat → Nat} {n a : Nat} (h : a ≤ n) : a ≤ stA b n a ∧ stA b n a ≤ n := by
  obtain ⟨h1, h2, -⟩ := rn_bd (p := isB) (b := b) (n := n) (n - a) a (by omega)
  exact ⟨h1, h2⟩
theorem enS_bd {b : Nat → Nat} {n s : Nat} (h : s ≤ n) : s ≤ enS b n s ∧ enS b n s ≤ n ∧ (s < n → s < enS b n s) := by
  unfold enS
  by_cases h1 : s < n
  · rw [if_pos h1]
    by_cases h2 : isL (b s) = true
    · rw [if_pos h2, rn_t h1 h2]
      obtain ⟨h3, h4, -⟩ := rn_bd (p := isL) (b := b) (n := n) (n - (s + 1)) (s + 1) (by omega)
      omega
    · rw [if_neg h2]
      by_cases h5 : isD (b s) = true
      · rw [if_pos h5, rn_t h1 h5]
        obtain ⟨h3, h4, -⟩ := rn_bd (p := isD) (b := b) (n := n) (n - (s + 1)) (s + 1) (by omega)
        omega
      · rw [if_neg h5]
        omega
  · rw [if_neg h1]
    omega
theorem wIx_le (l : List Nat) : wIx l ≤ 12 := by
  unfold wIx
  (repeat' split) <;> decide
theorem tkS_302 {b : Nat → Nat} {n s : Nat} (h : tkS b n s ≠ 302) : s < n := by
  unfold tkS at h
  by_cases h1 : s < n
  · exact h1
  · rw [if_neg h1] at h
    exact absurd rfl h
theorem nxA_bd {b : Nat → Nat} {n a : Nat} (h : a ≤ n) : a ≤ nxA b n a ∧ nxA b n a ≤ n ∧ (tkA b n a ≠ 302 → a < nxA b n a) := by
  obtain ⟨h1, h2⟩ := stA_bd (b := b) h
  obtain ⟨h3, h4, h5⟩ := enS_bd (b := b) h2
  refine ⟨Nat.le_trans h1 h3, h4, fun q => ?_⟩
  exact Nat.lt_of_le_of_lt h1 (h5 (tkS_302 q))
theorem isS_c {c : Nat} (h : isS c = true) : c = 40 ∨ c = 41 ∨ c = 59 ∨ c = 43 ∨ c = 45 ∨ c = 42 ∨ c = 60 ∨ c = 61 := of_decide_eq_true h
/-- all tokens there are -/
def okT (t : Nat) : Prop := t = 40 ∨ t = 41 ∨ t = 42 ∨ t = 43 ∨ t = 45 ∨ t = 59 ∨ t = 60 ∨ t = 61 ∨ t = 200 ∨ t = 201 ∨ t = 202 ∨ t = 203 ∨ t = 204 ∨ t = 205 ∨ t = 300 ∨ t = 301 ∨ t = 302 ∨ t = 303
theorem tkS_ok (b : Nat → Nat) (n s : Nat) : okT (tkS b n s) := by
  unfold tkS okT
  have := wIx_le (seg b s (rn isL b n s))
  dsimp only
  split
  · split
    · split
      · omega
      · split <;> omega
    · split
      · split <;> omega
      · split
        · next h => have := isS_c h; omega
        · omega
  · omega
/-- only the reader's own numbers are others -/
def Lx (M M' : Mem) : Prop := FI M' 72 1 = FI M 72 1 ∧ (∀ c, c ≠ 72 → ∀ k, FI M' c k = FI M c k) ∧ FJ M' = FJ M ∧ AI M' = AI M ∧ RF M' = RF M
theorem Lx.rf (M : Mem) : Lx M M := ⟨rfl, fun _ _ _ => rfl, rfl, rfl, rfl⟩
theorem Lx.tr {M M1 M2 : Mem} (h : Lx M M1) (g : Lx M1 M2) : Lx M M2 := ⟨g.1.trans h.1, fun c hc k => (g.2.1 c hc k).trans (h.2.1 c hc k), g.2.2.1.trans h.2.2.1, g.2.2.2.1.trans h.2.2.2.1, g.2.2.2.2.trans h.2.2.2.2⟩
theorem Lx.fi (M : Mem) {k : Nat} (v : Int32) (h : k ≠ 1) : Lx M (sFI M 72 k v) := ⟨FI_n (fun q => h q.symm), fun c hc j => by rw [FI_sFI, if_neg (fun q => hc q.1)], rfl, rfl, rfl⟩
/-- the class' tape -/
def Tp (M : Mem) (b : Nat → Nat) (n : Nat) : Prop := FI M 72 1 = nI n ∧ ∀ k, k < n → AI M 71 k = nI (b k)
theorem Tp.lx {M M' : Mem} {b : Nat → Nat} {n : Nat} (h : Tp M b n) (g : Lx M M') : Tp M' b n := ⟨g.1.trans h.1, fun k hk => by rw [g.2.2.2.1]; exact h.2 k hk⟩
theorem byteAt_c {M : Mem} {b : Nat → Nat} {n a : Nat} (h : Tp M b n) (hn : n ≤ 160) (ha : a < n) : f_X0_byteAt (nI a) M = some (nI (b a)) := by
  unfold f_X0_byteAt b_X0_byteAt_0
  rw [h.1, if_neg (nI_pos (by omega)), if_neg (nI_ge ha (by omega)), if_neg (show ¬ nI (len 71) ≤ nI a from nI_ge (show a < 160 by omega) (by decide)), gdn (n := len 71) (show a < 160 by omega) (by decide), nI_clamp (by omega), h.2 a ha]
theorem letter_c {c : Nat} (hc : c < 256) (M : Mem) : f_X0_isLetter (nI c) M = some (isL c) := by
  unfold f_X0_isLetter b_X0_isLetter_0 isL
  rw [lk_97, lk_122, itLt (by omega) (by decide), itLt (by decide) (by omega)]
  by_cases h1 : c < 97
  · rw [if_pos h1, decide_eq_false (by omega)]
  · rw [if_neg h1]
    by_cases h2 : 122 < c
    · rw [if_pos h2, decide_eq_false (by omega)]
    · rw [if_neg h2, decide_eq_true (by omega)]
theorem digit_c {c : Nat} (hc : c < 256) (M : Mem) : f_X0_isDigit (nI c) M = some (isD c) := by
  unfold f_X0_isDigit b_X0_isDigit_0 isD
  rw [lk_48, lk_57, itLt (by omega) (by decide), itLt (by decide) (by omega)]
  by_cases h1 : c < 48
  · rw [if_pos h1, decide_eq_false (by omega)]
  · rw [if_neg h1]
    by_cases h2 : 57 < c
    · rw [if_pos h2, decide_eq_false (by omega)]
    · rw [if_neg h2, decide_eq_true (by omega)]
theorem sign_c : ∀ c, c < 256 → (if nI c = (40 : Int32) then some true else (if nI c = (41 : Int32) then some true else (if nI c = (59 : Int32) then some true else (if nI c = (43 : Int32) then some true else (if nI c = (45 : Int32) then some true else (if nI c = (42 : Int32) then some true else (if nI c = (60 : Int32) then some true else (if nI c = (61 : Int32) then some true else some false)))))))) = some (isS c) := by decide +kernel
theorem zlen_w : ∀ w, w < 12 → zlen.getD w 0 = (wd w).length := by decide +kernel
theorem wd_len : ∀ w, w < 12 → (wd w).length ≤ 6 := by decide +kernel
theorem zbyt_w : ∀ w, w < 12 → ∀ i, i < 6 → i < (wd w).length → ((((((zbyt.getD w []).getD i 0) &&& (255 : Int32))).toUInt32 % 65536).toInt32) = nI ((wd w).getD i 0) := by decide +kernel
theorem wd_byte : ∀ w, w < 12 → ∀ i, i < 6 → (wd w).getD i 0 < 123 := by decide +kernel
theorem slen_c {w : Nat} (hw : w < 12) (M : Mem) : f_J0_length_8abf5 w M = some (nI (wd w).length) := by
  have h6 := wd_len w hw
  have e : w = 0 ∨ w = 1 ∨ w = 2 ∨ w = 3 ∨ w = 4 ∨ w = 5 ∨ w = 6 ∨ w = 7 ∨ w = 8 ∨ w = 9 ∨ w = 10 ∨ w = 11 := by omega
  unfold f_J0_length_8abf5 b_J0_length_8abf5_0 f_J0_coder_7d493 b_J0_coder_7d493_0
  rw [if_neg (show ¬ (1 : Int32) = 0 by decide), bind_some_, zlen_w w hw]
  rcases e with rfl | rfl | rfl | rfl | rfl | rfl | rfl | rfl | rfl | rfl | rfl | rfl <;> rfl
theorem isCh_w : ∀ w, w < 12 → ∀ i, i < 6 → isCh (nI ((wd w).getD i 0)) = true := by decide +kernel
theorem schar_c {w i : Nat} (hw : w < 12) (hi : i < (wd w).length) (M : Mem) : f_J0_charAt_5068e w (nI i) M = some (nI ((wd w).getD i 0)) := by
  have h6 := wd_len w hw
  unfold f_J0_charAt_5068e b_J0_charAt_5068e_0 f_J0_isLatin1_aae02 b_J0_isLatin1_aae02_0 f_J1_charAt_3b067 b_J1_charAt_3b067_0 f_J0_checkIndex_df160 b_J0_checkIndex_df160_0 f_J3_checkIndex_8e157 b_J3_checkIndex_8e157_0
  rw [if_neg (show ¬ (1 : Int32) = 0 by decide), if_pos (show (0 : Int32) = 0 from rfl), bind_some_, if_pos rfl, zlen_w w hw, if_neg (nI_pos (by omega)), if_pos (nI_lt hi (by omega)), bind_some_, bind_some_, gd_t (inb_nI hi (by omega)), nI_clamp (by omega), zbyt_w w hw i (by omega) hi, bind_some_, gd_t (isCh_w w hw i (by omega))]
theorem seg_len (b : Nat → Nat) (s e : Nat) : (seg b s e).length = e - s := by
  unfold seg
  rw [List.length_map, List.length_range]
theorem seg_at {b : Nat → Nat} {s e i : Nat} (h : i < e - s) : (seg b s e).getD i 0 = b (s + i) := gmap h
theorem seg_eq {b : Nat → Nat} {s e : Nat} {l : List Nat} : seg b s e = l ↔ (e - s = l.length ∧ ∀ i, i < l.length → b (s + i) = l.getD i 0) := by
  constructor
  · intro h
    subst h
    rw [seg_len]
    exact ⟨rfl, fun i hi => (seg_at hi).symm⟩
  · intro ⟨h1, h2⟩
    refine List.ext_getElem? (fun i => ?_)
    by_cases hi : i < l.length
    · have h3 := h2 i hi
      rw [← seg_at (b := b) (s := s) (e := e) (by omega)] at h3
      rw [List.getD_eq_getElem?_getD, List.getD_eq_getElem?_getD, List.getElem?_eq_getElem (by rw [seg_len]; omega), List.getElem?_eq_getElem hi] at h3
      rw [List.getElem?_eq_getElem (by rw [seg_len]; omega), List.getElem?_eq_getElem hi]
      exact congrArg some h3
    · rw [List.getElem?_eq_none (by rw [seg_len]; omega), List.getElem?_eq_none (by omega)]
/-- like from i on -/
def likeB (b : Nat → Nat) (s : Nat) (l : List Nat) : Nat → Nat → Bool
  | 0, _ => true
  | m + 1, i => if b (s + i) = l.getD i 0 then likeB b s l m (i + 1) else false
theorem likeB_t {b : Nat → Nat} {s : Nat} {l : List Nat} : ∀ (m i : Nat), likeB b s l m i = true ↔ ∀ j, i ≤ j → j < i + m → b (s + j) = l.getD j 0
  | 0, i => ⟨fun _ j h1 h2 => by omega, fun _ => rfl⟩
  | m + 1, i => by
    show (if b (s + i) = l.getD i 0 then likeB b s l m (i + 1) else false) = true ↔ _
    by_cases e : b (s + i) = l.getD i 0
    · rw [if_pos e, likeB_t m (i + 1)]
      exact ⟨fun h j h1 h2 => by
        by_cases q : j = i
        · rw [q]; exact e
        · exact h j (by omega) (by omega), fun h j h1 h2 => h j (by omega) (by omega)⟩
    · rw [if_neg e]
      exact ⟨fun h => absurd h Bool.false_ne_true, fun h => absurd (h i (Nat.le_refl _) (by omega)) e⟩
theorem isWord_loop {N w n s : Nat} {M : Mem} {b : Nat → Nat} (h : Tp M b n) (hn : n ≤ 160) (hb : ∀ k, k < n → b k < 256) (hw : w < 12) (h3 : FI M 72 3 = nI s) (hs : s + (wd w).length ≤ n) : ∀ (m fu i : Nat), m < fu → i + m = (wd w).length → b_X0_isWord_20 N M w fu (nI i) = some (likeB b s (wd w) m i) := by
  intro m
  have h6 := wd_len w hw
  induction m with
  | zero =>
    intro fu i hf hi
    obtain ⟨fu, rfl⟩ : ∃ z, fu = z + 1 := ⟨fu - 1, by omega⟩
    rw [b_X0_isWord_20, slen_c hw, bind_some_, if_pos (nI_le (by omega) (by omega))]
    rfl
  | succ m ih =>
    intro fu i hf hi
    obtain ⟨fu, rfl⟩ : ∃ z, fu = z + 1 := ⟨fu - 1, by omega⟩
    have l1 := hb (s + i) (by omega)
    have l2 := wd_byte w hw i (by omega)
    rw [b_X0_isWord_20, slen_c hw, bind_some_, if_neg (nI_ge (by omega) (by omega)), h3, nI_add, byteAt_c h hn (by omega), bind_some_, schar_c hw (by omega), bind_some_, nI_1, ih fu (i + 1) (by omega) (by omega)]
    show _ = some (if b (s + i) = (wd w).getD i 0 then likeB b s (wd w) m (i + 1) else false)
    by_cases e : b (s + i) = (wd w).getD i 0
    · rw [if_pos e, if_pos ((nI_eq (by omega) (by omega)).mpr e)]
    · rw [if_neg e, if_neg (fun z => e ((nI_eq (by omega) (by omega)).mp z))]
theorem isWord_c {N w n s e : Nat} {M : Mem} {b : Nat → Nat} (hN : 160 < N) (h : Tp M b n) (hn : n ≤ 160) (hb : ∀ k, k < n → b k < 256) (hw : w < 12) (h2 : FI M 72 2 = nI e) (h3 : FI M 72 3 = nI s) (hse : s ≤ e) (he : e ≤ n) : f_X0_isWord N w M = some (decide (seg b s e = wd w)) := by
  have h6 := wd_len w hw
  unfold f_X0_isWord b_X0_isWord_0
  rw [slen_c hw, bind_some_, h2, h3, pk_sub hse]
  by_cases q : e - s = (wd w).length
  · rw [if_pos ((nI_eq (by omega) (by omega)).mpr q), show ((0 : Int32)) = nI 0 from rfl, isWord_loop h hn hb hw h3 (by omega) (wd w).length N 0 (by omega) (by omega)]
    by_cases q2 : likeB b s (wd w) (wd w).length 0 = true
    · rw [q2, decide_eq_true (seg_eq.mpr ⟨q, fun i hi => (likeB_t _ _).mp q2 i (by omega) (by omega)⟩)]
    · rw [Bool.not_eq_true] at q2
      rw [q2, decide_eq_false (fun z => by
        have := (likeB_t (wd w).length 0).mpr (fun j _ hj => (seg_eq.mp z).2 j (by omega))
        rw [q2] at this
        cases this)]
  · rw [if_neg (fun z => q ((nI_eq (by omega) (by omega)).mp z)), decide_eq_false (fun z => q (seg_eq.mp z).1)]
theorem wd_inj : ∀ u, u < 12 → ∀ w, w < 12 → wd u = wd w → u = w := by decide +kernel
theorem wIx_of {l : List Nat} {w : Nat} (hw : w < 12) (h : l = wd w) : wIx l = w := by
  subst h
  have e : w = 0 ∨ w = 1 ∨ w = 2 ∨ w = 3 ∨ w = 4 ∨ w = 5 ∨ w = 6 ∨ w = 7 ∨ w = 8 ∨ w = 9 ∨ w = 10 ∨ w = 11 := by omega
  rcases e with rfl | rfl | rfl | rfl | rfl | rfl | rfl | rfl | rfl | rfl | rfl | rfl <;> decide
theorem wIx_eq {l : List Nat} {w : Nat} (h : wIx l = w) (hw : w < 12) : l = wd w := by
  unfold wIx at h
  (repeat' split at h) <;> (try (subst h; assumption)) <;> omega
/-- the class looks for the word: whatever is the last that fits -/
theorem words_loop {N n s e : Nat} {b : Nat → Nat} (hN : 160 < N) (hn : n ≤ 160) (hb : ∀ k, k < n → b k < 256) (hse : s ≤ e) (he : e ≤ n) : ∀ (m fu w : Nat) (M : Mem), m < fu → w + m = 12 → Tp M b n → FI M 72 2 = nI e → FI M 72 3 = nI s → (if wIx (seg b s e) < w then FI M 72 4 = nI (if wIx (seg b s e) < 6 then 200 + wIx (seg b s e) else 301) ∧ (6 ≤ wIx (seg b s e) → FI M 72 5 = nI (wIx (seg b s e) - 6)) else FI M 72 4 = nI 303) →
    ∃ M', b_X0_takeWord_47 N fu (nI w) M = some M' ∧ Lx M M' ∧ FI M' 72 2 = nI e ∧ FI M' 72 3 = nI s ∧ (if wIx (seg b s e) < 12 then FI M' 72 4 = nI (if wIx (seg b s e) < 6 then 200 + wIx (seg b s e) else 301) ∧ (6 ≤ wIx (seg b s e) → FI M' 72 5 = nI (wIx (seg b s e) - 6)) else FI M' 72 4 = nI 303) := by
  intro m
  have hle := wIx_le (seg b s e)
  induction m with
  | zero =>
    intro fu w M hf hw hT h2 h3 h4
    obtain ⟨fu, rfl⟩ : ∃ z, fu = z + 1 := ⟨fu - 1, by omega⟩
    have : w = 12 := by omega
    subst this
    rw [b_X0_takeWord_47, if_pos (show (12 : Int32) ≤ nI 12 by decide)]
    exact ⟨M, rfl, Lx.rf M, h2, h3, h4⟩
  | succ m ih =>
    intro fu w M hf hw hT h2 h3 h4
    obtain ⟨fu, rfl⟩ : ∃ z, fu = z + 1 := ⟨fu - 1, by omega⟩
    have hword : f_X0_word (nI w) M = some w := by
      have e : w = 0 ∨ w = 1 ∨ w = 2 ∨ w = 3 ∨ w = 4 ∨ w = 5 ∨ w = 6 ∨ w = 7 ∨ w = 8 ∨ w = 9 ∨ w = 10 ∨ w = 11 := by omega
      rcases e with rfl | rfl | rfl | rfl | rfl | rfl | rfl | rfl | rfl | rfl | rfl | rfl <;> rfl
    rw [b_X0_takeWord_47, if_neg (show ¬ (12 : Int32) ≤ nI w from nI_ge (b := 12) (by omega) (by decide)), hword, bind_some_, gd_t (decide_eq_true (show w < 13 by omega)), isWord_c hN hT hn hb (by omega) h2 h3 hse he, bind_some_]
    unfold b_X0_takeWord_82 b_X0_takeWord_85 b_X0_takeWord_93
    rw [nI_1]
    by_cases q : seg b s e = wd w
    · have ew := wIx_of (by omega) q
      rw [decide_eq_true q, if_pos rfl]
      have go : ∀ t : Nat, t = (if wIx (seg b s e) < 6 then 200 + wIx (seg b s e) else 301) → ∃ M', b_X0_takeWord_47 N fu (nI (w + 1)) (sFI (sFI M 72 4 (nI t)) 72 5 (nI w - 6)) = some M' ∧ Lx M M' ∧ FI M' 72 2 = nI e ∧ FI M' 72 3 = nI s ∧ (if wIx (seg b s e) < 12 then FI M' 72 4 = nI (if wIx (seg b s e) < 6 then 200 + wIx (seg b s e) else 301) ∧ (6 ≤ wIx (seg b s e) → FI M' 72 5 = nI (wIx (seg b s e) - 6)) else FI M' 72 4 = nI 303) := by
        intro t ht
        have lx : Lx M (sFI (sFI M 72 4 (nI t)) 72 5 (nI w - 6)) := (Lx.fi M _ (by decide)).tr (Lx.fi _ _ (by decide))
        obtain ⟨M', a1, a2, a3⟩ := ih fu (w + 1) (sFI (sFI M 72 4 (nI t)) 72 5 (nI w - 6)) (by omega) (by omega) (hT.lx lx) ((FI_n (by decide)).trans ((FI_n (by decide)).trans h2)) ((FI_n (by decide)).trans ((FI_n (by decide)).trans h3)) (by
          rw [if_pos (show wIx (seg b s e) < w + 1 by omega)]
          refine ⟨?_, fun h6 => ?_⟩
          · rw [FI_n (by decide), FI_s, ht]
          · rw [FI_s, ew, lk_6, pk_sub (by omega)])
        exact ⟨M', a1, lx.tr a2, a3⟩
      by_cases w6 : 6 ≤ w
      · rw [if_pos (show (6 : Int32) ≤ nI w from nI_le (a := 6) w6 (by omega))]
        exact go 301 (by rw [if_neg (by omega)])
      · rw [if_neg (show ¬ (6 : Int32) ≤ nI w from nI_ge (b := 6) (by omega) (by decide)), lk_200, nI_add]
        exact go (200 + w) (by rw [if_pos (by omega), ew])
    · rw [decide_eq_false q, if_neg Bool.false_ne_true]
      refine ih fu (w + 1) M (by omega) (by omega) hT h2 h3 ?_
      by_cases h5 : wIx (seg b s e) < w
      · rw [if_pos h5] at h4
        rw [if_pos (show wIx (seg b s e) < w + 1 by omega)]
        exact h4
      · rw [if_neg h5] at h4
        rw [if_neg (fun z => q (wIx_eq (show wIx (seg b s e) = w by omega) (by omega)))]
        exact h4
theorem takeWord_loop {N n s : Nat} {b : Nat → Nat} (hN : 160 < N) (hn : n ≤ 160) (hb : ∀ k, k < n → b k < 256) : ∀ (m fu a : Nat) (M : Mem), m < fu → a + m = n → s ≤ a → Tp M b n → FI M 72 2 = nI a → FI M 72 3 = nI s →
    ∃ M', b_X0_takeWord_0 N fu M = some M' ∧ Lx M M' ∧ FI M' 72 2 = nI (rn isL b n a) ∧ FI M' 72 3 = nI s ∧ (if wIx (seg b s (rn isL b n a)) < 12 then FI M' 72 4 = nI (if wIx (seg b s (rn isL b n a)) < 6 then 200 + wIx (seg b s (rn isL b n a)) else 301) ∧ (6 ≤ wIx (seg b s (rn isL b n a)) → FI M' 72 5 = nI (wIx (seg b s (rn isL b n a)) - 6)) else FI M' 72 4 = nI 303) := by
  intro m
  have fin : ∀ (a : Nat) (M : Mem), a ≤ n → s ≤ a → rn isL b n a = a → Tp M b n → FI M 72 2 = nI a → FI M 72 3 = nI s → ∃ M', b_X0_takeWord_38 N M = some M' ∧ Lx M M' ∧ FI M' 72 2 = nI (rn isL b n a) ∧ FI M' 72 3 = nI s ∧ (if wIx (seg b s (rn isL b n a)) < 12 then FI M' 72 4 = nI (if wIx (seg b s (rn isL b n a)) < 6 then 200 + wIx (seg b s (rn isL b n a)) else 301) ∧ (6 ≤ wIx (seg b s (rn isL b n a)) → FI M' 72 5 = nI (wIx (seg b s (rn isL b n a)) - 6)) else FI M' 72 4 = nI 303) := by
    intro a M ha hs hr hT h2 h3
    rw [hr]
    have lx : Lx M (sFI M 72 4 303) := Lx.fi M _ (by decide)
    obtain ⟨M', a1, a2, a3⟩ := words_loop (N := N) (s := s) (e := a) hN hn hb hs ha 12 N 0 (sFI M 72 4 303) (by omega) (by omega) (hT.lx lx) ((FI_n (by decide)).trans h2) ((FI_n (by decide)).trans h3) (by rw [if_neg (Nat.not_lt_zero _)]; exact FI_s)
    exact ⟨M', a1, lx.tr a2, a3⟩
  induction m with
  | zero =>
    intro fu a M hf ha hs hT h2 h3
    obtain ⟨fu, rfl⟩ : ∃ z, fu = z + 1 := ⟨fu - 1, by omega⟩
    rw [b_X0_takeWord_0, hT.1, h2, if_pos (nI_le (by omega) (by omega))]
    exact fin a M (by omega) hs (rn_f (by omega)) hT h2 h3
  | succ m ih =>
    intro fu a M hf ha hs hT h2 h3
    obtain ⟨fu, rfl⟩ : ∃ z, fu = z + 1 := ⟨fu - 1, by omega⟩
    rw [b_X0_takeWord_0, hT.1, h2, if_neg (nI_ge (by omega) (by omega)), byteAt_c hT hn (by omega), bind_some_, letter_c (hb a (by omega)), bind_some_]
    by_cases q : isL (b a) = true
    · rw [if_pos q]
      unfold b_X0_takeWord_35
      rw [nI_1, rn_t (by omega) q]
      have lx : Lx M (sFI M 72 2 (nI (a + 1))) := Lx.fi M _ (by decide)
      obtain ⟨M', a1, a2, a3⟩ := ih fu (a + 1) (sFI M 72 2 (nI (a + 1))) (by omega) (by omega) (by omega) (hT.lx lx) FI_s ((FI_n (by decide)).trans h3)
      exact ⟨M', a1, lx.tr a2, a3⟩
    · rw [if_neg q]
      exact fin a M (by omega) hs (rn_f (fun z => q z.2)) hT h2 h3
theorem takeNum_loop {N n s : Nat} {b : Nat → Nat} (hN : 160 < N) (hn : n ≤ 160) (hb : ∀ k, k < n → b k < 256) : ∀ (m fu k : Nat) (M : Mem), m < fu → s + k + m = n → Tp M b n → FI M 72 2 = nI (s + k) → FI M 72 3 = nI s → (k ≤ 4 → FI M 72 5 = nI (nuN b s k)) →
    ∃ M', b_X0_takeNumber_5 N fu M = some M' ∧ Lx M M' ∧ FI M' 72 2 = nI (rn isD b n (s + k)) ∧ FI M' 72 3 = nI s ∧ (if rn isD b n (s + k) - s ≤ 4 then FI M' 72 4 = nI 300 ∧ FI M' 72 5 = nI (nuN b s (rn isD b n (s + k) - s)) else FI M' 72 4 = nI 303) := by
  intro m
  have fin : ∀ (k : Nat) (M : Mem), s + k ≤ n → rn isD b n (s + k) = s + k → FI M 72 2 = nI (s + k) → FI M 72 3 = nI s → (k ≤ 4 → FI M 72 5 = nI (nuN b s k)) → ∃ M', b_X0_takeNumber_66 N M = some M' ∧ Lx M M' ∧ FI M' 72 2 = nI (rn isD b n (s + k)) ∧ FI M' 72 3 = nI s ∧ (if rn isD b n (s + k) - s ≤ 4 then FI M' 72 4 = nI 300 ∧ FI M' 72 5 = nI (nuN b s (rn isD b n (s + k) - s)) else FI M' 72 4 = nI 303) := by
    intro k M hk hr h2 h3 h5
    rw [hr]
    unfold b_X0_takeNumber_66 b_X0_takeNumber_89
    rw [h2, h3, pk_sub (by omega), show s + k - s = k by omega]
    by_cases q : k ≤ 4
    · rw [if_pos (show nI k ≤ (4 : Int32) from nI_le (b := 4) q (by decide))]
      refine ⟨_, rfl, Lx.fi M _ (by decide), (FI_n (by decide)).trans h2, (FI_n (by decide)).trans h3, ?_⟩
      rw [if_pos q]
      exact ⟨FI_s, (FI_n (by decide)).trans (h5 q)⟩
    · rw [if_neg (show ¬ nI k ≤ (4 : Int32) from nI_ge (a := 4) (by omega) (by omega))]
      refine ⟨_, rfl, Lx.fi M _ (by decide), (FI_n (by decide)).trans h2, (FI_n (by decide)).trans h3, ?_⟩
      rw [if_neg q]
      exact FI_s
  induction m with
  | zero =>
    intro fu k M hf hk hT h2 h3 h5
    obtain ⟨fu, rfl⟩ : ∃ z, fu = z + 1 := ⟨fu - 1, by omega⟩
    rw [b_X0_takeNumber_5, hT.1, h2, if_pos (nI_le (by omega) (by omega))]
    exact fin k M (by omega) (rn_f (by omega)) h2 h3 h5
  | succ m ih =>
    intro fu k M hf hk hT h2 h3 h5
    obtain ⟨fu, rfl⟩ : ∃ z, fu = z + 1 := ⟨fu - 1, by omega⟩
    rw [b_X0_takeNumber_5, hT.1, h2, if_neg (nI_ge (by omega) (by omega)), byteAt_c hT hn (by omega), bind_some_, digit_c (hb (s + k) (by omega)), bind_some_]
    by_cases q : isD (b (s + k)) = true
    · have hd : 48 ≤ b (s + k) ∧ b (s + k) ≤ 57 := of_decide_eq_true q
      rw [if_pos q, bind_some_]
      unfold b_X0_takeNumber_53 b_X0_takeNumber_63
      rw [FI_n (by decide), h2, nI_1, rn_t (by omega) q]
      have lx : Lx M (sFI (sFI M 72 5 (FI M 72 5 * 10 + nI (b (s + k)) - 48)) 72 2 (nI (s + k + 1))) := (Lx.fi M _ (by decide)).tr (Lx.fi _ _ (by decide))
      obtain ⟨M', a1, a2, a3⟩ := ih fu (k + 1) (sFI (sFI M 72 5 (FI M 72 5 * 10 + nI (b (s + k)) - 48)) 72 2 (nI (s + k + 1))) (by omega) (by omega) (hT.lx lx) FI_s ((FI_n (by decide)).trans ((FI_n (by decide)).trans h3)) (fun h4 => by
        rw [FI_n (by decide), FI_s, h5 (by omega), lk_10, pk_mul, nI_add, lk_48, pk_sub (by omega)]
        show nI _ = nI (10 * nuN b s k + (b (s + k) - 48))
        congr 1
        omega)
      exact ⟨M', a1, lx.tr a2, a3⟩
    · rw [if_neg q]
      exact fin k M (by omega) (rn_f (fun z => q z.2)) h2 h3 h5
/-- the class reads the next token -/
theorem advance_c {N n : Nat} {b : Nat → Nat} (hN : 160 < N) (hn : n ≤ 160) (hb : ∀ k, k < n → b k < 256) : ∀ (m fu a : Nat) (M : Mem), m < fu → a + m = n → Tp M b n → FI M 72 2 = nI a →
    ∃ M', b_X0_advance_0 N fu M = some M' ∧ Lx M M' ∧ FI M' 72 2 = nI (nxA b n a) ∧ FI M' 72 3 = nI (stA b n a) ∧ FI M' 72 4 = nI (tkA b n a) ∧ ((tkA b n a = 300 ∨ tkA b n a = 301) → FI M' 72 5 = nI (vlA b n a)) := by
  intro m
  have fin : ∀ (a : Nat) (M : Mem), a ≤ n → stA b n a = a → Tp M b n → FI M 72 2 = nI a → ∃ M', b_X0_advance_50 N M = some M' ∧ Lx M M' ∧ FI M' 72 2 = nI (nxA b n a) ∧ FI M' 72 3 = nI (stA b n a) ∧ FI M' 72 4 = nI (tkA b n a) ∧ ((tkA b n a = 300 ∨ tkA b n a = 301) → FI M' 72 5 = nI (vlA b n a)) := by
    intro a M ha hst hT h2
    have lx1 : Lx M (sFI M 72 3 (nI a)) := Lx.fi M _ (by decide)
    have hT1 := hT.lx lx1
    have e2 : FI (sFI M 72 3 (nI a)) 72 2 = nI a := (FI_n (by decide)).trans h2
    have e3 : FI (sFI M 72 3 (nI a)) 72 3 = nI a := FI_s
    unfold b_X0_advance_50 b_X0_advance_58
    rw [h2, e2, hT1.1]
    unfold nxA tkA vlA
    rw [hst]
    by_cases han : a < n
    · rw [if_pos (nI_lt han (by omega)), byteAt_c hT1 hn han, bind_some_, letter_c (hb a han), bind_some_]
      by_cases q : isL (b a) = true
      · rw [if_pos q]
        obtain ⟨M', a1, a2, a3, a4, a5⟩ := takeWord_loop (N := N) (s := a) hN hn hb (n - a) N a (sFI M 72 3 (nI a)) (by omega) (by omega) (by omega) hT1 e2 e3
        rw [show f_X0_takeWord N (sFI M 72 3 (nI a)) = some M' from a1, bind_some_]
        have hle := wIx_le (seg b a (rn isL b n a))
        refine ⟨M', rfl, lx1.tr a2, ?_, a4, ?_, ?_⟩
        · rw [a3]
          unfold enS
          rw [if_pos han, if_pos q]
        · unfold tkS
          rw [if_pos han, if_pos q]
          dsimp only
          by_cases w12 : wIx (seg b a (rn isL b n a)) < 12
          · rw [if_pos w12] at a5
            rw [a5.1]
            by_cases w6 : wIx (seg b a (rn isL b n a)) < 6
            · rw [if_pos w6, if_pos w6]
            · rw [if_neg w6, if_neg w6, if_pos w12]
          · rw [if_neg w12] at a5
            rw [a5, if_neg (by omega), if_neg w12]
        · unfold tkS vlS
          rw [if_pos han, if_pos q, if_pos q]
          dsimp only
          intro ht
          by_cases w6 : wIx (seg b a (rn isL b n a)) < 6
          · rw [if_pos w6] at ht
            omega
          · rw [if_neg w6] at ht
            by_cases w12 : wIx (seg b a (rn isL b n a)) < 12
            · rw [if_pos w12] at a5
              exact a5.2 (by omega)
            · rw [if_neg w12] at ht
              omega
      · rw [if_neg q, digit_c (hb a han), bind_some_]
        by_cases q2 : isD (b a) = true
        · rw [if_pos q2]
          have lx2 : Lx (sFI M 72 3 (nI a)) (sFI (sFI M 72 3 (nI a)) 72 5 0) := Lx.fi _ _ (by decide)
          obtain ⟨M', a1, a2, a3, a4, a5⟩ := takeNum_loop (N := N) (s := a) hN hn hb (n - a) N 0 (sFI (sFI M 72 3 (nI a)) 72 5 0) (by omega) (by omega) (hT1.lx lx2) ((FI_n (by decide)).trans e2) ((FI_n (by decide)).trans e3) (fun _ => FI_s)
          rw [Nat.add_zero] at a3 a5
          rw [show f_X0_takeNumber N (sFI M 72 3 (nI a)) = some M' from a1, bind_some_]
          refine ⟨M', rfl, (lx1.tr lx2).tr a2, ?_, a4, ?_, ?_⟩
          · rw [a3]
            unfold enS
            rw [if_pos han, if_neg q, if_pos q2]
          · unfold tkS
            rw [if_pos han, if_neg q, if_pos q2]
            by_cases w4 : rn isD b n a - a ≤ 4
            · rw [if_pos w4] at a5
              rw [if_pos w4]
              exact a5.1
            · rw [if_neg w4] at a5
              rw [if_neg w4]
              exact a5
          · unfold tkS vlS
            rw [if_pos han, if_neg q, if_pos q2, if_neg q]
            intro ht
            by_cases w4 : rn isD b n a - a ≤ 4
            · rw [if_pos w4] at a5
              exact a5.2
            · rw [if_neg w4] at ht
              omega
        · rw [if_neg q2, nI_1]
          unfold b_X0_advance_124 b_X0_advance_139
          have hsg : f_X0_isSign (nI (b a)) (sFI (sFI M 72 3 (nI a)) 72 2 (nI (a + 1))) = some (isS (b a)) := sign_c (b a) (hb a han)
          rw [hsg, bind_some_]
          have lx2 : Lx (sFI M 72 3 (nI a)) (sFI (sFI M 72 3 (nI a)) 72 2 (nI (a + 1))) := Lx.fi _ _ (by decide)
          by_cases q3 : isS (b a) = true
          · rw [if_pos q3]
            refine ⟨_, rfl, (lx1.tr lx2).tr (Lx.fi _ _ (by decide)), ?_, (FI_n (by decide)).trans ((FI_n (by decide)).trans e3), ?_, ?_⟩
            · unfold enS
              rw [if_pos han, if_neg q, if_neg q2]
              exact (FI_n (by decide)).trans FI_s
            · unfold tkS
              rw [if_pos han, if_neg q, if_neg q2, if_pos q3]
              exact FI_s
            · unfold tkS
              rw [if_pos han, if_neg q, if_neg q2, if_pos q3]
              intro ht
              have := isS_c q3
              omega
          · rw [if_neg q3]
            refine ⟨_, rfl, (lx1.tr lx2).tr (Lx.fi _ _ (by decide)), ?_, (FI_n (by decide)).trans ((FI_n (by decide)).trans e3), ?_, ?_⟩
            · unfold enS
              rw [if_pos han, if_neg q, if_neg q2]
              exact (FI_n (by decide)).trans FI_s
            · unfold tkS
              rw [if_pos han, if_neg q, if_neg q2, if_neg q3]
              exact FI_s
            · unfold tkS
              rw [if_pos han, if_neg q, if_neg q2, if_neg q3]
              intro ht
              omega
    · rw [if_neg (nI_nlt (by omega) (by omega))]
      refine ⟨_, rfl, lx1.tr (Lx.fi _ _ (by decide)), ?_, (FI_n (by decide)).trans e3, ?_, ?_⟩
      · unfold enS
        rw [if_neg han]
        exact (FI_n (by decide)).trans e2
      · unfold tkS
        rw [if_neg han]
        exact FI_s
      · unfold tkS
        rw [if_neg han]
        intro ht
        omega
  induction m with
  | zero =>
    intro fu a M hf ha hT h2
    obtain ⟨fu, rfl⟩ : ∃ z, fu = z + 1 := ⟨fu - 1, by omega⟩
    rw [b_X0_advance_0, hT.1, h2, if_pos (nI_le (by omega) (by omega))]
    exact fin a M (by omega) (rn_f (by omega)) hT h2
  | succ m ih =>
    intro fu a M hf ha hT h2
    obtain ⟨fu, rfl⟩ : ∃ z, fu = z + 1 := ⟨fu - 1, by omega⟩
    have han : a < n := by omega
    have hba := hb a han
    have e37 : b_X0_advance_37 N (b_X0_advance_0 N fu) M = b_X0_advance_0 N fu (sFI M 72 2 (nI (a + 1))) := by
      unfold b_X0_advance_37 b_X0_advance_47
      rw [h2, nI_1]
    have lx : Lx M (sFI M 72 2 (nI (a + 1))) := Lx.fi M _ (by decide)
    have go : isB (b a) = true → ∃ M', b_X0_advance_0 N fu (sFI M 72 2 (nI (a + 1))) = some M' ∧ Lx M M' ∧ FI M' 72 2 = nI (nxA b n a) ∧ FI M' 72 3 = nI (stA b n a) ∧ FI M' 72 4 = nI (tkA b n a) ∧ ((tkA b n a = 300 ∨ tkA b n a = 301) → FI M' 72 5 = nI (vlA b n a)) := by
      intro hq
      have e : stA b n a = stA b n (a + 1) := rn_t han hq
      unfold nxA tkA vlA
      rw [e]
      obtain ⟨M', a1, a2, a3⟩ := ih fu (a + 1) (sFI M 72 2 (nI (a + 1))) (by omega) (by omega) (hT.lx lx) FI_s
      exact ⟨M', a1, lx.tr a2, a3⟩
    rw [b_X0_advance_0, hT.1, h2, if_neg (nI_ge (by omega) (by omega)), byteAt_c hT hn han, bind_some_, bind_some_, e37, show (32 : Int32) = nI 32 from rfl, show (10 : Int32) = nI 10 from rfl, itEq (by omega) (by decide), itEq (by omega) (by decide)]
    by_cases q : b a = 32
    · rw [if_pos q]
      exact go (decide_eq_true (Or.inl q))
    · rw [if_neg q]
      by_cases q2 : b a = 10
      · rw [if_pos q2]
        exact go (decide_eq_true (Or.inr q2))
      · rw [if_neg q2]
        exact fin a M (by omega) (rn_f (fun z => by
          have := of_decide_eq_true z.2
          omega)) hT h2
