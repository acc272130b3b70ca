section
variable {p : Program} {l : Launch} {e : Env} {s : State} {m : MethodId} {args : Array Value} {below : List Frame} {meth : Method} {c : Code} {D : va_G} {cy : Nat → ClassId} {ad : Nat → Nat} {zz : (Nat → Nat) × (Nat → Nat)} {A : Nat → Prop}
def b_X6_turn_131 (N : Nat) (x1 : Int32) (x2 : Int32) (x3 : Int32) (k42 : Int32 → Int32 → Int32 → Mem → Option (Int32 × Mem)) (x4 : Int32) (x6 : Int32) (t0 : Int32) (M : Mem) : Option (Int32 × Mem) := k42 x4 t0 (x6 + (1 : Int32)) M
set_option maxHeartbeats 4000000 in
set_option maxRecDepth 100000 in
theorem w_X6_turn_131 (C : CX p s m args meth c cX6_turn 9 (some .int) RX6 D cy ad zz 100 21 A) {N : Nat} {M : Mem} {x1 : Int32} {x2 : Int32} {x3 : Int32} {k42 : Int32 → Int32 → Int32 → Mem → Option (Int32 × Mem)} {rr : Int32} {M' : Mem} (hk42 : ∀ (x4 : Int32), ∀ (x5 : Int32), ∀ (x6 : Int32), ∀ (M : Mem), ∀ (H : Heap) (locs : List Loc), va_P D vwCl (pool cy ad 100 21 M) H → va_D A (pool cy ad 100 21 M) → va_S A s.heap H locs → ∀ (ls : Array Slot), lv_has ls 9 [(0, .ref (ad 100)), (1, .int x1), (2, .int x2), (3, .int x3), (4, .int x4), (5, .int x5), (6, .int x6)] → k42 x4 x5 x6 M = some (rr, M') → W p l e ({ frames := 6, cells := 0, slots := 0, locals := 140 } : Room) s m args below meth c H locs 0 0 (MQ below (va_Qi (fun (x : Int32) (_ : Unit) => x = rr) (fun _ t => PA D cy ad 100 21 A M' t) A) args s 0 0 A) (F0 m 42 ls [])) {x4 : Int32} {x6 : Int32} {t0 : Int32} {H : Heap} {locs : List Loc} (hP : va_P D vwCl (pool cy ad 100 21 M) H) (hD : va_D A (pool cy ad 100 21 M)) (hS : va_S A s.heap H locs) {ls : Array Slot} (hl : lv_has ls 9 [(0, .ref (ad 100)), (1, .int x1), (2, .int x2), (3, .int x3), (4, .int x4), (6, .int x6)]) (h : b_X6_turn_131 N x1 x2 x3 k42 x4 x6 t0 M = some (rr, M')) : W p l e ({ frames := 6, cells := 0, slots := 0, locals := 140 } : Room) s m args below meth c H locs 0 0 (MQ below (va_Qi (fun (x : Int32) (_ : Unit) => x = rr) (fun _ t => PA D cy ad 100 21 A M' t) A) args s 0 0 A) (F0 m 131 ls [.int t0]) := by
  obtain ⟨hx, hb, hml, hown, hts, hr, hlk, hK, hN, hA, hX⟩ := id C
  unfold b_X6_turn_131 at h
  refine lv_istore (lv' := [(5, .int t0), (0, .ref (ad 100)), (1, .int x1), (2, .int x2), (3, .int x3), (4, .int x4), (6, .int x6)]) hx hb dX6_turn_131 hl (by decide) rfl (fun ls hl => ?_)
  refine lv_iinc (v := (x6 + (1 : Int32))) (lv' := [(6, .int (x6 + (1 : Int32))), (5, .int t0), (0, .ref (ad 100)), (1, .int x1), (2, .int x2), (3, .int x3), (4, .int x4)]) hx hb dX6_turn_133 hl (k := 6) rfl rfl (by decide) rfl (fun ls hl => ?_)
  refine lv_goto (tgt := 42) hx hb dX6_turn_136 (by decide) ?_
  exact hk42 _ _ _ _ _ _ hP hD hS _ (lv_sub hl [2, 3, 4, 5, 6, 1, 0] rfl) h
def b_X6_turn_117 (N : Nat) (x1 : Int32) (x2 : Int32) (x3 : Int32) (k42 : Int32 → Int32 → Int32 → Mem → Option (Int32 × Mem)) (x5 : Int32) (x6 : Int32) (x7 : Int32) (x8 : Int32) (t0 : Int32) (M : Mem) : Option (Int32 × Mem) := (if x8 = 0 then b_X6_turn_131 N x1 x2 x3 k42 t0 x6 x5 M else b_X6_turn_131 N x1 x2 x3 k42 t0 x6 x7 M)
set_option maxHeartbeats 4000000 in
set_option maxRecDepth 100000 in
theorem w_X6_turn_117 (C : CX p s m args meth c cX6_turn 9 (some .int) RX6 D cy ad zz 100 21 A) {N : Nat} {M : Mem} {x1 : Int32} {x2 : Int32} {x3 : Int32} {k42 : Int32 → Int32 → Int32 → Mem → Option (Int32 × Mem)} {rr : Int32} {M' : Mem} (hk42 : ∀ (x4 : Int32), ∀ (x5 : Int32), ∀ (x6 : Int32), ∀ (M : Mem), ∀ (H : Heap) (locs : List Loc), va_P D vwCl (pool cy ad 100 21 M) H → va_D A (pool cy ad 100 21 M) → va_S A s.heap H locs → ∀ (ls : Array Slot), lv_has ls 9 [(0, .ref (ad 100)), (1, .int x1), (2, .int x2), (3, .int x3), (4, .int x4), (5, .int x5), (6, .int x6)] → k42 x4 x5 x6 M = some (rr, M') → W p l e ({ frames := 6, cells := 0, slots := 0, locals := 140 } : Room) s m args below meth c H locs 0 0 (MQ below (va_Qi (fun (x : Int32) (_ : Unit) => x = rr) (fun _ t => PA D cy ad 100 21 A M' t) A) args s 0 0 A) (F0 m 42 ls [])) {x5 : Int32} {x6 : Int32} {x7 : Int32} {x8 : Int32} {t0 : Int32} {H : Heap} {locs : List Loc} (hP : va_P D vwCl (pool cy ad 100 21 M) H) (hD : va_D A (pool cy ad 100 21 M)) (hS : va_S A s.heap H locs) {ls : Array Slot} (hl : lv_has ls 9 [(0, .ref (ad 100)), (1, .int x1), (2, .int x2), (3, .int x3), (5, .int x5), (6, .int x6), (7, .int x7), (8, .int x8)]) (h : b_X6_turn_117 N x1 x2 x3 k42 x5 x6 x7 x8 t0 M = some (rr, M')) : W p l e ({ frames := 6, cells := 0, slots := 0, locals := 140 } : Room) s m args below meth c H locs 0 0 (MQ below (va_Qi (fun (x : Int32) (_ : Unit) => x = rr) (fun _ t => PA D cy ad 100 21 A M' t) A) args s 0 0 A) (F0 m 117 ls [.int t0]) := by
  obtain ⟨hx, hb, hml, hown, hts, hr, hlk, hK, hN, hA, hX⟩ := id C
  unfold b_X6_turn_117 at h
  refine lv_istore (lv' := [(4, .int t0), (0, .ref (ad 100)), (1, .int x1), (2, .int x2), (3, .int x3), (5, .int x5), (6, .int x6), (7, .int x7), (8, .int x8)]) hx hb dX6_turn_117 hl (by decide) rfl (fun ls hl => ?_)
  refine lv_iload hx hb dX6_turn_119 (lv_at hl 8 rfl) ?_
  refine lv_if_eq (tgt := 129) hx hb dX6_turn_121 (by decide) (fun c121 => ?_) (fun c121 => ?_)
  · replace h := it_t c121 h
    refine lv_iload hx hb dX6_turn_129 (lv_at hl 5 rfl) ?_
    exact w_X6_turn_131 C hk42 hP hD hS (lv_sub hl [1, 2, 3, 4, 0, 6] rfl) h
  · replace h := it_f c121 h
    refine lv_iload hx hb dX6_turn_124 (lv_at hl 7 rfl) ?_
    refine lv_goto (tgt := 131) hx hb dX6_turn_126 (by decide) ?_
    exact w_X6_turn_131 C hk42 hP hD hS (lv_sub hl [1, 2, 3, 4, 0, 6] rfl) h
def b_X6_turn_103 (N : Nat) (x1 : Int32) (x2 : Int32) (x3 : Int32) (k42 : Int32 → Int32 → Int32 → Mem → Option (Int32 × Mem)) (x4 : Int32) (x5 : Int32) (x6 : Int32) (x7 : Int32) (t0 : Int32) (M : Mem) : Option (Int32 × Mem) := (if t0 = 0 then b_X6_turn_117 N x1 x2 x3 k42 x5 x6 x7 t0 x4 M else b_X6_turn_117 N x1 x2 x3 k42 x5 x6 x7 t0 x6 M)
set_option maxHeartbeats 4000000 in
set_option maxRecDepth 100000 in
theorem w_X6_turn_103 (C : CX p s m args meth c cX6_turn 9 (some .int) RX6 D cy ad zz 100 21 A) {N : Nat} {M : Mem} {x1 : Int32} {x2 : Int32} {x3 : Int32} {k42 : Int32 → Int32 → Int32 → Mem → Option (Int32 × Mem)} {rr : Int32} {M' : Mem} (hk42 : ∀ (x4 : Int32), ∀ (x5 : Int32), ∀ (x6 : Int32), ∀ (M : Mem), ∀ (H : Heap) (locs : List Loc), va_P D vwCl (pool cy ad 100 21 M) H → va_D A (pool cy ad 100 21 M) → va_S A s.heap H locs → ∀ (ls : Array Slot), lv_has ls 9 [(0, .ref (ad 100)), (1, .int x1), (2, .int x2), (3, .int x3), (4, .int x4), (5, .int x5), (6, .int x6)] → k42 x4 x5 x6 M = some (rr, M') → W p l e ({ frames := 6, cells := 0, slots := 0, locals := 140 } : Room) s m args below meth c H locs 0 0 (MQ below (va_Qi (fun (x : Int32) (_ : Unit) => x = rr) (fun _ t => PA D cy ad 100 21 A M' t) A) args s 0 0 A) (F0 m 42 ls [])) {x4 : Int32} {x5 : Int32} {x6 : Int32} {x7 : Int32} {t0 : Int32} {H : Heap} {locs : List Loc} (hP : va_P D vwCl (pool cy ad 100 21 M) H) (hD : va_D A (pool cy ad 100 21 M)) (hS : va_S A s.heap H locs) {ls : Array Slot} (hl : lv_has ls 9 [(0, .ref (ad 100)), (1, .int x1), (2, .int x2), (3, .int x3), (4, .int x4), (5, .int x5), (6, .int x6), (7, .int x7)]) (h : b_X6_turn_103 N x1 x2 x3 k42 x4 x5 x6 x7 t0 M = some (rr, M')) : W p l e ({ frames := 6, cells := 0, slots := 0, locals := 140 } : Room) s m args below meth c H locs 0 0 (MQ below (va_Qi (fun (x : Int32) (_ : Unit) => x = rr) (fun _ t => PA D cy ad 100 21 A M' t) A) args s 0 0 A) (F0 m 103 ls [.int t0]) := by
  obtain ⟨hx, hb, hml, hown, hts, hr, hlk, hK, hN, hA, hX⟩ := id C
  unfold b_X6_turn_103 at h
  refine lv_istore (lv' := [(8, .int t0), (0, .ref (ad 100)), (1, .int x1), (2, .int x2), (3, .int x3), (4, .int x4), (5, .int x5), (6, .int x6), (7, .int x7)]) hx hb dX6_turn_103 hl (by decide) rfl (fun ls hl => ?_)
  refine lv_iload hx hb dX6_turn_105 (lv_at hl 0 rfl) ?_
  refine lv_if_eq (tgt := 115) hx hb dX6_turn_107 (by decide) (fun c107 => ?_) (fun c107 => ?_)
  · replace h := it_t c107 h
    refine lv_iload hx hb dX6_turn_115 (lv_at hl 5 rfl) ?_
    exact w_X6_turn_117 C hk42 hP hD hS (lv_sub hl [1, 2, 3, 4, 6, 7, 8, 0] rfl) h
  · replace h := it_f c107 h
    refine lv_iload hx hb dX6_turn_110 (lv_at hl 7 rfl) ?_
    refine lv_goto (tgt := 117) hx hb dX6_turn_112 (by decide) ?_
    exact w_X6_turn_117 C hk42 hP hD hS (lv_sub hl [1, 2, 3, 4, 6, 7, 8, 0] rfl) h
def b_X6_turn_98 (N : Nat) (x1 : Int32) (x2 : Int32) (x3 : Int32) (k42 : Int32 → Int32 → Int32 → Mem → Option (Int32 × Mem)) (x4 : Int32) (x5 : Int32) (x6 : Int32) (x7 : Int32) (M : Mem) : Option (Int32 × Mem) := b_X6_turn_103 N x1 x2 x3 k42 x4 x5 x6 x7 (1 : Int32) M
set_option maxHeartbeats 4000000 in
set_option maxRecDepth 100000 in
theorem w_X6_turn_98 (C : CX p s m args meth c cX6_turn 9 (some .int) RX6 D cy ad zz 100 21 A) {N : Nat} {M : Mem} {x1 : Int32} {x2 : Int32} {x3 : Int32} {k42 : Int32 → Int32 → Int32 → Mem → Option (Int32 × Mem)} {rr : Int32} {M' : Mem} (hk42 : ∀ (x4 : Int32), ∀ (x5 : Int32), ∀ (x6 : Int32), ∀ (M : Mem), ∀ (H : Heap) (locs : List Loc), va_P D vwCl (pool cy ad 100 21 M) H → va_D A (pool cy ad 100 21 M) → va_S A s.heap H locs → ∀ (ls : Array Slot), lv_has ls 9 [(0, .ref (ad 100)), (1, .int x1), (2, .int x2), (3, .int x3), (4, .int x4), (5, .int x5), (6, .int x6)] → k42 x4 x5 x6 M = some (rr, M') → W p l e ({ frames := 6, cells := 0, slots := 0, locals := 140 } : Room) s m args below meth c H locs 0 0 (MQ below (va_Qi (fun (x : Int32) (_ : Unit) => x = rr) (fun _ t => PA D cy ad 100 21 A M' t) A) args s 0 0 A) (F0 m 42 ls [])) {x4 : Int32} {x5 : Int32} {x6 : Int32} {x7 : Int32} {H : Heap} {locs : List Loc} (hP : va_P D vwCl (pool cy ad 100 21 M) H) (hD : va_D A (pool cy ad 100 21 M)) (hS : va_S A s.heap H locs) {ls : Array Slot} (hl : lv_has ls 9 [(0, .ref (ad 100)), (1, .int x1), (2, .int x2), (3, .int x3), (4, .int x4), (5, .int x5), (6, .int x6), (7, .int x7)]) (h : b_X6_turn_98 N x1 x2 x3 k42 x4 x5 x6 x7 M = some (rr, M')) : W p l e ({ frames := 6, cells := 0, slots := 0, locals := 140 } : Room) s m args below meth c H locs 0 0 (MQ below (va_Qi (fun (x : Int32) (_ : Unit) => x = rr) (fun _ t => PA D cy ad 100 21 A M' t) A) args s 0 0 A) (F0 m 98 ls []) := by
  obtain ⟨hx, hb, hml, hown, hts, hr, hlk, hK, hN, hA, hX⟩ := id C
  unfold b_X6_turn_98 at h
  refine lv_iconst (v := 1) hx hb dX6_turn_98 (by decide) ?_
  refine lv_goto (tgt := 103) hx hb dX6_turn_99 (by decide) ?_
  exact w_X6_turn_103 C hk42 hP hD hS hl h
def b_X6_turn_81 (N : Nat) (x1 : Int32) (x2 : Int32) (x3 : Int32) (k42 : Int32 → Int32 → Int32 → Mem → Option (Int32 × Mem)) (x4 : Int32) (x5 : Int32) (x6 : Int32) (x7 : Int32) (M : Mem) : Option (Int32 × Mem) := (f_X6_lays N M).bind fun M82 => (if x4 = (-1 : Int32) then b_X6_turn_98 N x1 x2 x3 k42 x4 x5 x6 x7 M82 else (if x5 ≤ x7 then b_X6_turn_103 N x1 x2 x3 k42 x4 x5 x6 x7 (0 : Int32) M82 else b_X6_turn_98 N x1 x2 x3 k42 x4 x5 x6 x7 M82))
set_option maxHeartbeats 4000000 in
set_option maxRecDepth 100000 in
theorem w_X6_turn_81 (C : CX p s m args meth c cX6_turn 9 (some .int) RX6 D cy ad zz 100 21 A) {N : Nat} {M : Mem} {x1 : Int32} {x2 : Int32} {x3 : Int32} {k42 : Int32 → Int32 → Int32 → Mem → Option (Int32 × Mem)} {rr : Int32} {M' : Mem} (hk42 : ∀ (x4 : Int32), ∀ (x5 : Int32), ∀ (x6 : Int32), ∀ (M : Mem), ∀ (H : Heap) (locs : List Loc), va_P D vwCl (pool cy ad 100 21 M) H → va_D A (pool cy ad 100 21 M) → va_S A s.heap H locs → ∀ (ls : Array Slot), lv_has ls 9 [(0, .ref (ad 100)), (1, .int x1), (2, .int x2), (3, .int x3), (4, .int x4), (5, .int x5), (6, .int x6)] → k42 x4 x5 x6 M = some (rr, M') → W p l e ({ frames := 6, cells := 0, slots := 0, locals := 140 } : Room) s m args below meth c H locs 0 0 (MQ below (va_Qi (fun (x : Int32) (_ : Unit) => x = rr) (fun _ t => PA D cy ad 100 21 A M' t) A) args s 0 0 A) (F0 m 42 ls [])) {x4 : Int32} {x5 : Int32} {x6 : Int32} {x7 : Int32} {H : Heap} {locs : List Loc} (hP : va_P D vwCl (pool cy ad 100 21 M) H) (hD : va_D A (pool cy ad 100 21 M)) (hS : va_S A s.heap H locs) {ls : Array Slot} (hl : lv_has ls 9 [(0, .ref (ad 100)), (1, .int x1), (2, .int x2), (3, .int x3), (4, .int x4), (5, .int x5), (6, .int x6), (7, .int x7)]) (h : b_X6_turn_81 N x1 x2 x3 k42 x4 x5 x6 x7 M = some (rr, M')) : W p l e ({ frames := 6, cells := 0, slots := 0, locals := 140 } : Room) s m args below meth c H locs 0 0 (MQ below (va_Qi (fun (x : Int32) (_ : Unit) => x = rr) (fun _ t => PA D cy ad 100 21 A M' t) A) args s 0 0 A) (F0 m 81 ls []) := by
  obtain ⟨hx, hb, hml, hown, hts, hr, hlk, hK, hN, hA, hX⟩ := id C
  unfold b_X6_turn_81 at h
  refine lv_aload_n hx hb dX6_turn_81 rfl (lv_at hl 0 rfl) ?_
  obtain ⟨M82, g82, h⟩ := bd_of h
  refine call_vV (As := []) (rest := []) C hP hD hS (c_X6_lays g82) (iL (by decide)) ⟨6, _, _, ent_6 (by decide), rfl, rfl⟩ (gV wd_1124 wd_1126 wd_52 wd_75 wd_1127) ev_X6_lays ⟨rfl, rfl⟩ ⟨Nat.le_of_ble_eq_true rfl, Nat.le_of_ble_eq_true rfl⟩ hl.1 rfl (Nat.le_of_ble_eq_true rfl) dX6_turn_82 (fun H locs hP hD hS => ?_)
  refine lv_iload hx hb dX6_turn_85 (lv_at hl 4 rfl) ?_
  refine lv_iconst (v := -1) hx hb dX6_turn_87 (by decide) ?_
  refine lv_icmp_eq (tgt := 98) hx hb dX6_turn_88 (by decide) (fun c88 => ?_) (fun c88 => ?_)
  · replace h := it_t c88 h
    exact w_X6_turn_98 C hk42 hP hD hS hl h
  · replace h := it_f c88 h
    refine lv_iload hx hb dX6_turn_91 (lv_at hl 7 rfl) ?_
    refine lv_iload hx hb dX6_turn_93 (lv_at hl 5 rfl) ?_
    refine lv_icmp_ge (tgt := 102) hx hb dX6_turn_95 (by decide) (fun c95 => ?_) (fun c95 => ?_)
    · replace h := it_t c95 h
      refine lv_iconst (v := 0) hx hb dX6_turn_102 (by decide) ?_
      exact w_X6_turn_103 C hk42 hP hD hS hl h
    · replace h := it_f c95 h
      exact w_X6_turn_98 C hk42 hP hD hS hl h
def b_X6_turn_64 (N : Nat) (x1 : Int32) (x2 : Int32) (x3 : Int32) (k42 : Int32 → Int32 → Int32 → Mem → Option (Int32 × Mem)) (x4 : Int32) (x5 : Int32) (x6 : Int32) (M : Mem) : Option (Int32 × Mem) := (f_X6_goes N x2 M).bind fun M66 => gd (inb (((5 : Int32) * x1) + (3 : Int32)) (len 103)) (b_X6_turn_81 N x1 x2 x3 k42 x4 x5 x6 (AI M66 103 (((5 : Int32) * x1) + (3 : Int32)).toNatClampNeg) M66)
set_option maxHeartbeats 4000000 in
set_option maxRecDepth 100000 in
theorem w_X6_turn_64 (C : CX p s m args meth c cX6_turn 9 (some .int) RX6 D cy ad zz 100 21 A) {N : Nat} {M : Mem} {x1 : Int32} {x2 : Int32} {x3 : Int32} {k42 : Int32 → Int32 → Int32 → Mem → Option (Int32 × Mem)} {rr : Int32} {M' : Mem} (hk42 : ∀ (x4 : Int32), ∀ (x5 : Int32), ∀ (x6 : Int32), ∀ (M : Mem), ∀ (H : Heap) (locs : List Loc), va_P D vwCl (pool cy ad 100 21 M) H → va_D A (pool cy ad 100 21 M) → va_S A s.heap H locs → ∀ (ls : Array Slot), lv_has ls 9 [(0, .ref (ad 100)), (1, .int x1), (2, .int x2), (3, .int x3), (4, .int x4), (5, .int x5), (6, .int x6)] → k42 x4 x5 x6 M = some (rr, M') → W p l e ({ frames := 6, cells := 0, slots := 0, locals := 140 } : Room) s m args below meth c H locs 0 0 (MQ below (va_Qi (fun (x : Int32) (_ : Unit) => x = rr) (fun _ t => PA D cy ad 100 21 A M' t) A) args s 0 0 A) (F0 m 42 ls [])) {x4 : Int32} {x5 : Int32} {x6 : Int32} {H : Heap} {locs : List Loc} (hP : va_P D vwCl (pool cy ad 100 21 M) H) (hD : va_D A (pool cy ad 100 21 M)) (hS : va_S A s.heap H locs) {ls : Array Slot} (hl : lv_has ls 9 [(0, .ref (ad 100)), (1, .int x1), (2, .int x2), (3, .int x3), (4, .int x4), (5, .int x5), (6, .int x6)]) (h : b_X6_turn_64 N x1 x2 x3 k42 x4 x5 x6 M = some (rr, M')) : W p l e ({ frames := 6, cells := 0, slots := 0, locals := 140 } : Room) s m args below meth c H locs 0 0 (MQ below (va_Qi (fun (x : Int32) (_ : Unit) => x = rr) (fun _ t => PA D cy ad 100 21 A M' t) A) args s 0 0 A) (F0 m 64 ls []) := by
  obtain ⟨hx, hb, hml, hown, hts, hr, hlk, hK, hN, hA, hX⟩ := id C
  unfold b_X6_turn_64 at h
  refine lv_aload_n hx hb dX6_turn_64 rfl (lv_at hl 0 rfl) ?_
  refine lv_iload_n hx hb dX6_turn_65 rfl (lv_at hl 2 rfl) ?_
  obtain ⟨M66, g66, h⟩ := bd_of h
  refine call_vV (As := [.int x2]) (rest := []) C hP hD hS (c_X6_goes g66) (iL (by decide)) ⟨6, _, _, ent_6 (by decide), rfl, rfl⟩ (gV wd_1108 wd_1110 wd_48 wd_75 wd_1111) ev_X6_goes ⟨rfl, rfl⟩ ⟨Nat.le_of_ble_eq_true rfl, Nat.le_of_ble_eq_true rfl⟩ hl.1 rfl (Nat.le_of_ble_eq_true rfl) dX6_turn_66 (fun H locs hP hD hS => ?_)
  refine lv_aload_n hx hb dX6_turn_69 rfl (lv_at hl 0 rfl) ?_
  refine gf_6_3 C hP (iL (by decide)) (by decide) wd_885 dX6_turn_70 ?_
  refine lv_iconst (v := 5) hx hb dX6_turn_73 (by decide) ?_
  refine lv_iload_n hx hb dX6_turn_74 rfl (lv_at hl 1 rfl) ?_
  refine lv_imul hx hb dX6_turn_75 ?_
  refine lv_iconst (v := 3) hx hb dX6_turn_76 (by decide) ?_
  refine lv_iadd hx hb dX6_turn_77 ?_
  obtain ⟨gi1, h⟩ := gd_of h
  refine ia_ld C hP (iL (by decide)) (by decide) gi1 dX6_turn_78 ?_
  refine lv_istore (lv' := [(7, .int (AI M66 103 (((5 : Int32) * x1) + (3 : Int32)).toNatClampNeg)), (0, .ref (ad 100)), (1, .int x1), (2, .int x2), (3, .int x3), (4, .int x4), (5, .int x5), (6, .int x6)]) hx hb dX6_turn_79 hl (by decide) rfl (fun ls hl => ?_)
  exact w_X6_turn_81 C hk42 hP hD hS (lv_sub hl [1, 2, 3, 4, 5, 6, 7, 0] rfl) h
def b_X6_turn_42 (N : Nat) (x1 : Int32) (x2 : Int32) (x3 : Int32) : Nat → Int32 → Int32 → Int32 → Mem → Option (Int32 × Mem)
  | 0, _, _, _, _ => none
  | fu + 1, x4, x5, x6, M => (if (4 : Int32) ≤ x6 then (if x3 = 0 then some (x4, M) else some (x5, M)) else (f_X6_keeps N M).bind fun M49 => gd (inb (((5 : Int32) * x1) + (1 : Int32)) (len 103)) (b_X6_turn_64 N x1 x2 x3 (b_X6_turn_42 N x1 x2 x3 fu) x4 x5 x6 (sAI M49 103 (((5 : Int32) * x1) + (1 : Int32)).toNatClampNeg x6)))
set_option maxHeartbeats 4000000 in
set_option maxRecDepth 100000 in
theorem w_X6_turn_42 (C : CX p s m args meth c cX6_turn 9 (some .int) RX6 D cy ad zz 100 21 A) {N : Nat} {x1 : Int32} {x2 : Int32} {x3 : Int32} {rr : Int32} {M' : Mem}  : ∀ (fu : Nat), ∀ (x4 : Int32), ∀ (x5 : Int32), ∀ (x6 : Int32), ∀ (M : Mem), ∀ (H : Heap) (locs : List Loc), va_P D vwCl (pool cy ad 100 21 M) H → va_D A (pool cy ad 100 21 M) → va_S A s.heap H locs → ∀ (ls : Array Slot), lv_has ls 9 [(0, .ref (ad 100)), (1, .int x1), (2, .int x2), (3, .int x3), (4, .int x4), (5, .int x5), (6, .int x6)] → b_X6_turn_42 N x1 x2 x3 fu x4 x5 x6 M = some (rr, M') → W p l e ({ frames := 6, cells := 0, slots := 0, locals := 140 } : Room) s m args below meth c H locs 0 0 (MQ below (va_Qi (fun (x : Int32) (_ : Unit) => x = rr) (fun _ t => PA D cy ad 100 21 A M' t) A) args s 0 0 A) (F0 m 42 ls []) := by
  obtain ⟨hx, hb, hml, hown, hts, hr, hlk, hK, hN, hA, hX⟩ := id C
  intro fu
  induction fu with
  | zero =>
    intro x4 x5 x6 M H locs hP hD hS ls hl h
    exact no_some (show none = some _ from h)
  | succ fu ih =>
    intro x4 x5 x6 M H locs hP hD hS ls hl h
    rw [b_X6_turn_42] at h
    refine lv_iload hx hb dX6_turn_42 (lv_at hl 6 rfl) ?_
    refine lv_iconst (v := 4) hx hb dX6_turn_44 (by decide) ?_
    refine lv_icmp_ge (tgt := 139) hx hb dX6_turn_45 (by decide) (fun c45 => ?_) (fun c45 => ?_)
    · replace h := it_t c45 h
      refine lv_iload_n hx hb dX6_turn_139 rfl (lv_at hl 3 rfl) ?_
      refine lv_if_ne (tgt := 148) hx hb dX6_turn_140 (by decide) (fun c140 => ?_) (fun c140 => ?_)
      · replace h := it_f c140 h
        refine lv_iload hx hb dX6_turn_148 (lv_at hl 5 rfl) ?_
        exact rt_i (r := x5) C hP hD hS dX6_turn_150 (rw_end h)
      · replace h := it_t c140 h
        refine lv_iload hx hb dX6_turn_143 (lv_at hl 4 rfl) ?_
        refine lv_goto (tgt := 150) hx hb dX6_turn_145 (by decide) ?_
        exact rt_i (r := x4) C hP hD hS dX6_turn_150 (rw_end h)
    · replace h := it_f c45 h
      refine lv_aload_n hx hb dX6_turn_48 rfl (lv_at hl 0 rfl) ?_
      obtain ⟨M49, g49, h⟩ := bd_of h
      refine call_vV (As := []) (rest := []) C hP hD hS (c_X6_keeps g49) (iL (by decide)) ⟨6, _, _, ent_6 (by decide), rfl, rfl⟩ (gV wd_1104 wd_1106 wd_47 wd_75 wd_1107) ev_X6_keeps ⟨rfl, rfl⟩ ⟨Nat.le_of_ble_eq_true rfl, Nat.le_of_ble_eq_true rfl⟩ hl.1 rfl (Nat.le_of_ble_eq_true rfl) dX6_turn_49 (fun H locs hP hD hS => ?_)
      refine lv_aload_n hx hb dX6_turn_52 rfl (lv_at hl 0 rfl) ?_
      refine gf_6_3 C hP (iL (by decide)) (by decide) wd_885 dX6_turn_53 ?_
      refine lv_iconst (v := 5) hx hb dX6_turn_56 (by decide) ?_
      refine lv_iload_n hx hb dX6_turn_57 rfl (lv_at hl 1 rfl) ?_
      refine lv_imul hx hb dX6_turn_58 ?_
      refine lv_iconst (v := 1) hx hb dX6_turn_59 (by decide) ?_
      refine lv_iadd hx hb dX6_turn_60 ?_
      refine lv_iload hx hb dX6_turn_61 (lv_at hl 6 rfl) ?_
      obtain ⟨gi1, h⟩ := gd_of h
      refine ia_st C hP hD hS (iL (by decide)) (by decide) gi1 dX6_turn_63 (fun H locs hP hD hS => ?_)
      exact w_X6_turn_64 C ih hP hD hS hl h
def b_X6_turn_0 (N : Nat) (x1 : Int32) (x2 : Int32) (x3 : Int32) (M : Mem) : Option (Int32 × Mem) := (f_X6_isOne x1 M).bind fun r2 => (if r2 = true then (f_X6_in x2 (0 : Int32) (40 : Int32) M).bind fun r15 => (if r15 = true then (f_X6_in x3 (0 : Int32) (1 : Int32) M).bind fun r24 => (if r24 = true then b_X6_turn_42 N x1 x2 x3 N (-1 : Int32) (0 : Int32) (0 : Int32) M else some ((-7 : Int32), M)) else some ((-7 : Int32), M)) else some ((-5 : Int32), M))
set_option maxHeartbeats 4000000 in
set_option maxRecDepth 100000 in
theorem w_X6_turn_0 (C : CX p s m args meth c cX6_turn 9 (some .int) RX6 D cy ad zz 100 21 A) {N : Nat} {M : Mem} {x1 : Int32} {x2 : Int32} {x3 : Int32} {rr : Int32} {M' : Mem} {H : Heap} {locs : List Loc} (hP : va_P D vwCl (pool cy ad 100 21 M) H) (hD : va_D A (pool cy ad 100 21 M)) (hS : va_S A s.heap H locs) {ls : Array Slot} (hl : lv_has ls 9 [(0, .ref (ad 100)), (1, .int x1), (2, .int x2), (3, .int x3)]) (h : b_X6_turn_0 N x1 x2 x3 M = some (rr, M')) : W p l e ({ frames := 6, cells := 0, slots := 0, locals := 140 } : Room) s m args below meth c H locs 0 0 (MQ below (va_Qi (fun (x : Int32) (_ : Unit) => x = rr) (fun _ t => PA D cy ad 100 21 A M' t) A) args s 0 0 A) (F0 m 0 ls []) := by
  obtain ⟨hx, hb, hml, hown, hts, hr, hlk, hK, hN, hA, hX⟩ := id C
  unfold b_X6_turn_0 at h
  refine lv_aload_n hx hb dX6_turn_0 rfl (lv_at hl 0 rfl) ?_
  refine lv_iload_n hx hb dX6_turn_1 rfl (lv_at hl 1 rfl) ?_
  obtain ⟨r2, g2, h⟩ := bd_of h
  refine call_iV (As := [.int x1]) (rest := []) C hP hD hS (c_X6_isOne g2) (iL (by decide)) ⟨6, _, _, ent_6 (by decide), rfl, rfl⟩ (gV wd_1034 wd_1036 wd_39 wd_75 wd_1037) ev_X6_isOne ⟨rfl, rfl⟩ ⟨Nat.le_of_ble_eq_true rfl, Nat.le_of_ble_eq_true rfl⟩ hl.1 rfl (Nat.le_of_ble_eq_true rfl) dX6_turn_2 (fun H locs hP hD hS => ?_)
  refine lv_if_ne (tgt := 11) hx hb dX6_turn_5 (by decide) (fun c5 => ?_) (fun c5 => ?_)
  · replace h := it_t (b2i_1 c5) h
    refine lv_iload_n hx hb dX6_turn_11 rfl (lv_at hl 2 rfl) ?_
    refine lv_iconst (v := 0) hx hb dX6_turn_12 (by decide) ?_
    refine lv_bipush (v := 40) hx hb dX6_turn_13 (by decide) ?_
    obtain ⟨r15, g15, h⟩ := bd_of h
    refine call_iS (As := [.int x2, .int (0 : Int32), .int (40 : Int32)]) (rest := []) C hP hD hS (c_X6_in g15) (gS wd_843 wd_844 wd_75 wd_845) es_X6_in ⟨rfl, rfl⟩ ⟨Nat.le_of_ble_eq_true rfl, Nat.le_of_ble_eq_true rfl⟩ hl.1 rfl (Nat.le_of_ble_eq_true rfl) dX6_turn_15 (fun H locs hP hD hS => ?_)
    refine lv_if_eq (tgt := 30) hx hb dX6_turn_18 (by decide) (fun c18 => ?_) (fun c18 => ?_)
    · replace h := it_f (b2i_n c18) h
      refine lv_bipush (v := -7) hx hb dX6_turn_30 (by decide) ?_
      exact rt_i (r := (-7 : Int32)) C hP hD hS dX6_turn_32 (rw_end h)
    · replace h := it_t (b2i_1 c18) h
      refine lv_iload_n hx hb dX6_turn_21 rfl (lv_at hl 3 rfl) ?_
      refine lv_iconst (v := 0) hx hb dX6_turn_22 (by decide) ?_
      refine lv_iconst (v := 1) hx hb dX6_turn_23 (by decide) ?_
      obtain ⟨r24, g24, h⟩ := bd_of h
      refine call_iS (As := [.int x3, .int (0 : Int32), .int (1 : Int32)]) (rest := []) C hP hD hS (c_X6_in g24) (gS wd_843 wd_844 wd_75 wd_845) es_X6_in ⟨rfl, rfl⟩ ⟨Nat.le_of_ble_eq_true rfl, Nat.le_of_ble_eq_true rfl⟩ hl.1 rfl (Nat.le_of_ble_eq_true rfl) dX6_turn_24 (fun H locs hP hD hS => ?_)
      refine lv_if_ne (tgt := 33) hx hb dX6_turn_27 (by decide) (fun c27 => ?_) (fun c27 => ?_)
      · replace h := it_t (b2i_1 c27) h
        refine lv_iconst (v := -1) hx hb dX6_turn_33 (by decide) ?_
        refine lv_istore (lv' := [(4, .int (-1 : Int32)), (0, .ref (ad 100)), (1, .int x1), (2, .int x2), (3, .int x3)]) hx hb dX6_turn_34 hl (by decide) rfl (fun ls hl => ?_)
        refine lv_iconst (v := 0) hx hb dX6_turn_36 (by decide) ?_
        refine lv_istore (lv' := [(5, .int (0 : Int32)), (4, .int (-1 : Int32)), (0, .ref (ad 100)), (1, .int x1), (2, .int x2), (3, .int x3)]) hx hb dX6_turn_37 hl (by decide) rfl (fun ls hl => ?_)
        refine lv_iconst (v := 0) hx hb dX6_turn_39 (by decide) ?_
        refine lv_istore (lv' := [(6, .int (0 : Int32)), (5, .int (0 : Int32)), (4, .int (-1 : Int32)), (0, .ref (ad 100)), (1, .int x1), (2, .int x2), (3, .int x3)]) hx hb dX6_turn_40 hl (by decide) rfl (fun ls hl => ?_)
        exact w_X6_turn_42 C N _ _ _ _ _ _ hP hD hS _ (lv_sub hl [3, 4, 5, 6, 2, 1, 0] rfl) h
      · replace h := it_f (b2i_n c27) h
        refine lv_bipush (v := -7) hx hb dX6_turn_30 (by decide) ?_
        exact rt_i (r := (-7 : Int32)) C hP hD hS dX6_turn_32 (rw_end h)
  · replace h := it_f (b2i_n c5) h
    refine lv_bipush (v := -5) hx hb dX6_turn_8 (by decide) ?_
    exact rt_i (r := (-5 : Int32)) C hP hD hS dX6_turn_10 (rw_end h)
def f_X6_turn (N : Nat) (x1 : Int32) (x2 : Int32) (x3 : Int32) (M : Mem) : Option (Int32 × Mem) := b_X6_turn_0 N x1 x2 x3 M
theorem c_X6_turn {l : Launch} {D : va_G} {cy : Nat → ClassId} {ad : Nat → Nat} {zz : (Nat → Nat) × (Nat → Nat)} {N : Nat} {x1 : Int32} {x2 : Int32} {x3 : Int32} {M : Mem} {rr : Int32} {M' : Mem} (h : f_X6_turn N x1 x2 x3 M = some (rr, M')) : CTi l D cy ad zz 100 21 yX6_turn (.code yX6_turn cX6_turn 9 (some .int) :: tb) ({ frames := 6, cells := 0, slots := 0, locals := 140 } : Room) [.ref (ad 100), .int x1, .int x2, .int x3] M rr M' := by
  intro sz
  refine CX.of (by decide +kernel) (fun p e s m args below meth c H ls C hP hD hS hl => ?_) (Nat.le_of_ble_eq_true rfl)
  exact w_X6_turn_0 C hP hD hS hl h
theorem ev_X6_turn : yX6_turn.cls = RX6 ∧ yX6_turn.cls ≠ "java/lang/invoke/MethodHandle" ∧ yX6_turn.cls ≠ "java/lang/invoke/VarHandle" ∧ (parseMethodDescriptor yX6_turn.desc).map (fun d => d.parameters.length) = some 3 := by decide +kernel
def b_X6_lowest_51 (N : Nat) (M : Mem) (y0 : Int64) (y2 : Int64) (x4 : Int32) (y5 : Int64) (u0 : Int64) : Option (Int64) := gd (decide (¬ y5 = 0)) (some (u0 / y5))
set_option maxHeartbeats 4000000 in
set_option maxRecDepth 100000 in
theorem w_X6_lowest_51 (C : CX p s m args meth c cX6_lowest 11 (some .long) RX6 D cy ad zz 100 21 A) {N : Nat} {M : Mem} {y0 : Int64} {y2 : Int64} {x4 : Int32} {rr : Int64} {y5 : Int64} {u0 : Int64} {H : Heap} {locs : List Loc} (hP : va_P D vwCl (pool cy ad 100 21 M) H) (hD : va_D A (pool cy ad 100 21 M)) (hS : va_S A s.heap H locs) {ls : Array Slot} (hl : lv_has ls 11 [(5, .long y5)]) (h : b_X6_lowest_51 N M y0 y2 x4 y5 u0 = some rr) : W p l e ({ frames := 0, cells := 0, slots := 0, locals := 0 } : Room) s m args below meth c H locs 0 0 (MQ below (va_Ql (fun (x : Int64) (_ : Unit) => x = rr) (fun _ t => PA D cy ad 100 21 A M t) A) args s 0 0 A) (F0 m 51 ls [.long u0]) := by
  obtain ⟨hx, hb, hml, hown, hts, hr, hlk, hK, hN, hA, hX⟩ := id C
  unfold b_X6_lowest_51 at h
  refine lv_lload hx hb dX6_lowest_51 (lv_at hl 0 rfl) ?_
  obtain ⟨gz1, h⟩ := gd_of h
  refine lv_ldiv hx hb dX6_lowest_53 (of_decide_eq_true gz1) ?_
  exact rt_l (r := (u0 / y5)) C hP hD hS dX6_lowest_54 ⟨Option.some.inj h, rfl⟩
def b_X6_lowest_16 (N : Nat) (M : Mem) (y0 : Int64) (y2 : Int64) (x4 : Int32) : Nat → Int64 → Int64 → Option (Int64)
  | 0, _, _ => none
  | fu + 1, y5, y7 => (if (lg_cmp y7 (0 : Int64)) = 0 then (if x4 = 0 then b_X6_lowest_51 N M y0 y2 x4 y5 y0 else b_X6_lowest_51 N M y0 y2 x4 y5 y2) else gd (decide (¬ y7 = 0)) (b_X6_lowest_16 N M y0 y2 x4 fu y7 (y5 - y5 / y7 * y7)))
set_option maxHeartbeats 4000000 in
set_option maxRecDepth 100000 in
theorem w_X6_lowest_16 (C : CX p s m args meth c cX6_lowest 11 (some .long) RX6 D cy ad zz 100 21 A) {N : Nat} {M : Mem} {y0 : Int64} {y2 : Int64} {x4 : Int32} {rr : Int64}  : ∀ (fu : Nat), ∀ (y5 : Int64), ∀ (y7 : Int64), ∀ (H : Heap) (locs : List Loc), va_P D vwCl (pool cy ad 100 21 M) H → va_D A (pool cy ad 100 21 M) → va_S A s.heap H locs → ∀ (ls : Array Slot), lv_has ls 11 [(0, .long y0), (2, .long y2), (4, .int x4), (5, .long y5), (7, .long y7)] → b_X6_lowest_16 N M y0 y2 x4 fu y5 y7 = some rr → W p l e ({ frames := 0, cells := 0, slots := 0, locals := 0 } : Room) s m args below meth c H locs 0 0 (MQ below (va_Ql (fun (x : Int64) (_ : Unit) => x = rr) (fun _ t => PA D cy ad 100 21 A M t) A) args s 0 0 A) (F0 m 16 ls []) := by
  obtain ⟨hx, hb, hml, hown, hts, hr, hlk, hK, hN, hA, hX⟩ := id C
  intro fu
  induction fu with
  | zero =>
    intro y5 y7 H locs hP hD hS ls hl h
    exact no_some (show none = some _ from h)
  | succ fu ih =>
    intro y5 y7 H locs hP hD hS ls hl h
    rw [b_X6_lowest_16] at h
    refine lv_lload hx hb dX6_lowest_16 (lv_at hl 4 rfl) ?_
    refine lv_lconst (v := 0) hx hb dX6_lowest_18 (by decide) ?_
    refine W.lcmp hx hb dX6_lowest_19 ?_
    refine lv_if_eq (tgt := 41) hx hb dX6_lowest_20 (by decide) (fun c20 => ?_) (fun c20 => ?_)
    · replace h := it_t c20 h
      refine lv_iload hx hb dX6_lowest_41 (lv_at hl 2 rfl) ?_
      refine lv_if_ne (tgt := 50) hx hb dX6_lowest_43 (by decide) (fun c43 => ?_) (fun c43 => ?_)
      · replace h := it_f c43 h
        refine lv_lload_n hx hb dX6_lowest_50 rfl (lv_at hl 1 rfl) ?_
        exact w_X6_lowest_51 C hP hD hS (lv_sub hl [3] rfl) h
      · replace h := it_t c43 h
        refine lv_lload_n hx hb dX6_lowest_46 rfl (lv_at hl 0 rfl) ?_
        refine lv_goto (tgt := 51) hx hb dX6_lowest_47 (by decide) ?_
        exact w_X6_lowest_51 C hP hD hS (lv_sub hl [3] rfl) h
    · replace h := it_f c20 h
      refine lv_lload hx hb dX6_lowest_23 (lv_at hl 3 rfl) ?_
      refine lv_lload hx hb dX6_lowest_25 (lv_at hl 4 rfl) ?_
      obtain ⟨gz1, h⟩ := gd_of h
      refine lv_lrem hx hb dX6_lowest_27 (of_decide_eq_true gz1) ?_
      refine lv_lstore (lv' := [(9, .long (y5 - y5 / y7 * y7)), (0, .long y0), (2, .long y2), (4, .int x4), (5, .long y5), (7, .long y7)]) hx hb dX6_lowest_28 hl (by decide) rfl (fun ls hl => ?_)
      refine lv_lload hx hb dX6_lowest_30 (lv_at hl 5 rfl) ?_
      refine lv_lstore (lv' := [(5, .long y7), (9, .long (y5 - y5 / y7 * y7)), (0, .long y0), (2, .long y2), (4, .int x4), (7, .long y7)]) hx hb dX6_lowest_32 hl (by decide) rfl (fun ls hl => ?_)
      refine lv_lload hx hb dX6_lowest_34 (lv_at hl 1 rfl) ?_
      refine lv_lstore (lv' := [(7, .long (y5 - y5 / y7 * y7)), (5, .long y7), (9, .long (y5 - y5 / y7 * y7)), (0, .long y0), (2, .long y2), (4, .int x4)]) hx hb dX6_lowest_36 hl (by decide) rfl (fun ls hl => ?_)
      refine lv_goto (tgt := 16) hx hb dX6_lowest_38 (by decide) ?_
      exact ih _ _ _ _ hP hD hS _ (lv_sub hl [3, 4, 5, 1, 0] rfl) h
def b_X6_lowest_0 (N : Nat) (M : Mem) (y0 : Int64) (y2 : Int64) (x4 : Int32) : Option (Int64) := (if (lg_cmp y0 (0 : Int64)) = 0 then some (x4.toInt64) else b_X6_lowest_16 N M y0 y2 x4 N y0 y2)
set_option maxHeartbeats 4000000 in
set_option maxRecDepth 100000 in
theorem w_X6_lowest_0 (C : CX p s m args meth c cX6_lowest 11 (some .long) RX6 D cy ad zz 100 21 A) {N : Nat} {M : Mem} {y0 : Int64} {y2 : Int64} {x4 : Int32} {rr : Int64} {H : Heap} {locs : List Loc} (hP : va_P D vwCl (pool cy ad 100 21 M) H) (hD : va_D A (pool cy ad 100 21 M)) (hS : va_S A s.heap H locs) {ls : Array Slot} (hl : lv_has ls 11 [(0, .long y0), (2, .long y2), (4, .int x4)]) (h : b_X6_lowest_0 N M y0 y2 x4 = some rr) : W p l e ({ frames := 0, cells := 0, slots := 0, locals := 0 } : Room) s m args below meth c H locs 0 0 (MQ below (va_Ql (fun (x : Int64) (_ : Unit) => x = rr) (fun _ t => PA D cy ad 100 21 A M t) A) args s 0 0 A) (F0 m 0 ls []) := by
  obtain ⟨hx, hb, hml, hown, hts, hr, hlk, hK, hN, hA, hX⟩ := id C
  unfold b_X6_lowest_0 at h
  refine lv_lload_n hx hb dX6_lowest_0 rfl (lv_at hl 0 rfl) ?_
  refine lv_lconst (v := 0) hx hb dX6_lowest_1 (by decide) ?_
  refine W.lcmp hx hb dX6_lowest_2 ?_
  refine lv_if_ne (tgt := 10) hx hb dX6_lowest_3 (by decide) (fun c3 => ?_) (fun c3 => ?_)
  · replace h := it_f c3 h
    refine lv_lload_n hx hb dX6_lowest_10 rfl (lv_at hl 0 rfl) ?_
    refine lv_lstore (lv' := [(5, .long y0), (0, .long y0), (2, .long y2), (4, .int x4)]) hx hb dX6_lowest_11 hl (by decide) rfl (fun ls hl => ?_)
    refine lv_lload_n hx hb dX6_lowest_13 rfl (lv_at hl 2 rfl) ?_
    refine lv_lstore (lv' := [(7, .long y2), (5, .long y0), (0, .long y0), (2, .long y2), (4, .int x4)]) hx hb dX6_lowest_14 hl (by decide) rfl (fun ls hl => ?_)
    exact w_X6_lowest_16 C N _ _ _ _ hP hD hS _ (lv_sub hl [2, 3, 4, 1, 0] rfl) h
  · replace h := it_t c3 h
    refine lv_iload hx hb dX6_lowest_6 (lv_at hl 2 rfl) ?_
    refine lv_i2l (v := (x4.toInt64)) hx hb dX6_lowest_8 rfl ?_
    exact rt_l (r := (x4.toInt64)) C hP hD hS dX6_lowest_9 ⟨Option.some.inj h, rfl⟩
def f_X6_lowest (N : Nat) (y0 : Int64) (y2 : Int64) (x4 : Int32) (M : Mem) : Option (Int64) := b_X6_lowest_0 N M y0 y2 x4
theorem c_X6_lowest {l : Launch} {D : va_G} {cy : Nat → ClassId} {ad : Nat → Nat} {zz : (Nat → Nat) × (Nat → Nat)} {N : Nat} {y0 : Int64} {y2 : Int64} {x4 : Int32} {M : Mem} {rr : Int64} (h : f_X6_lowest N y0 y2 x4 M = some rr) : CTl l D cy ad zz 100 21 yX6_lowest (.code yX6_lowest cX6_lowest 11 (some .long) :: tb) ({ frames := 0, cells := 0, slots := 0, locals := 0 } : Room) [.long y0, .long y2, .int x4] M rr M := by
  intro sz
  refine CX.of (by decide +kernel) (fun p e s m args below meth c H ls C hP hD hS hl => ?_) (Nat.le_of_ble_eq_true rfl)
  exact w_X6_lowest_0 C hP hD hS hl h
theorem es_X6_lowest : yX6_lowest.cls ≠ "java/lang/invoke/MethodHandle" ∧ yX6_lowest.cls ≠ "java/lang/invoke/VarHandle" ∧ (parseMethodDescriptor yX6_lowest.desc).map (fun d => d.parameters.length) = some 3 := by decide +kernel
def b_X6_share_0 (N : Nat) (x1 : Int32) (x2 : Int32) (M : Mem) : Option (Int64 × Mem) := (f_X6_in x1 (0 : Int32) (40 : Int32) M).bind fun r4 => (if r4 = true then (f_X6_in x2 (0 : Int32) (1 : Int32) M).bind fun r13 => (if r13 = true then bd2 (f_X6_tracked N x1 (-1 : Int32) M) fun r22 M22 => (f_X6_bitsOf N r22 M22).bind fun r25 => (f_X6_lowest N (r25.toInt64) (64 : Int64) x2 M22).bind fun r33 => some (r33, M22) else some ((-4611686018427387904 : Int64), M)) else some ((-4611686018427387904 : Int64), M))
set_option maxHeartbeats 4000000 in
set_option maxRecDepth 100000 in
theorem w_X6_share_0 (C : CX p s m args meth c cX6_share 3 (some .long) RX6 D cy ad zz 100 21 A) {N : Nat} {M : Mem} {x1 : Int32} {x2 : Int32} {rr : Int64} {M' : Mem} {H : Heap} {locs : List Loc} (hP : va_P D vwCl (pool cy ad 100 21 M) H) (hD : va_D A (pool cy ad 100 21 M)) (hS : va_S A s.heap H locs) {ls : Array Slot} (hl : lv_has ls 3 [(0, .ref (ad 100)), (1, .int x1), (2, .int x2)]) (h : b_X6_share_0 N x1 x2 M = some (rr, M')) : W p l e ({ frames := 7, cells := 0, slots := 0, locals := 165 } : Room) s m args below meth c H locs 0 0 (MQ below (va_Ql (fun (x : Int64) (_ : Unit) => x = rr) (fun _ t => PA D cy ad 100 21 A M' t) A) args s 0 0 A) (F0 m 0 ls []) := by
  obtain ⟨hx, hb, hml, hown, hts, hr, hlk, hK, hN, hA, hX⟩ := id C
  unfold b_X6_share_0 at h
  refine lv_iload_n hx hb dX6_share_0 rfl (lv_at hl 1 rfl) ?_
  refine lv_iconst (v := 0) hx hb dX6_share_1 (by decide) ?_
  refine lv_bipush (v := 40) hx hb dX6_share_2 (by decide) ?_
  obtain ⟨r4, g4, h⟩ := bd_of h
  refine call_iS (As := [.int x1, .int (0 : Int32), .int (40 : Int32)]) (rest := []) C hP hD hS (c_X6_in g4) (gS wd_843 wd_844 wd_75 wd_845) es_X6_in ⟨rfl, rfl⟩ ⟨Nat.le_of_ble_eq_true rfl, Nat.le_of_ble_eq_true rfl⟩ hl.1 rfl (Nat.le_of_ble_eq_true rfl) dX6_share_4 (fun H locs hP hD hS => ?_)
  refine lv_if_eq (tgt := 39) hx hb dX6_share_7 (by decide) (fun c7 => ?_) (fun c7 => ?_)
  · replace h := it_f (b2i_n c7) h
    refine lv_ldc2 hx hb hown (hts _ wd_1136) dX6_share_39 ?_
    exact rt_l (r := (-4611686018427387904 : Int64)) C hP hD hS dX6_share_42 (rw_end h)
  · replace h := it_t (b2i_1 c7) h
    refine lv_iload_n hx hb dX6_share_10 rfl (lv_at hl 2 rfl) ?_
    refine lv_iconst (v := 0) hx hb dX6_share_11 (by decide) ?_
    refine lv_iconst (v := 1) hx hb dX6_share_12 (by decide) ?_
    obtain ⟨r13, g13, h⟩ := bd_of h
    refine call_iS (As := [.int x2, .int (0 : Int32), .int (1 : Int32)]) (rest := []) C hP hD hS (c_X6_in g13) (gS wd_843 wd_844 wd_75 wd_845) es_X6_in ⟨rfl, rfl⟩ ⟨Nat.le_of_ble_eq_true rfl, Nat.le_of_ble_eq_true rfl⟩ hl.1 rfl (Nat.le_of_ble_eq_true rfl) dX6_share_13 (fun H locs hP hD hS => ?_)
    refine lv_if_eq (tgt := 39) hx hb dX6_share_16 (by decide) (fun c16 => ?_) (fun c16 => ?_)
    · replace h := it_f (b2i_n c16) h
      refine lv_ldc2 hx hb hown (hts _ wd_1136) dX6_share_39 ?_
      exact rt_l (r := (-4611686018427387904 : Int64)) C hP hD hS dX6_share_42 (rw_end h)
    · replace h := it_t (b2i_1 c16) h
      refine lv_aload_n hx hb dX6_share_19 rfl (lv_at hl 0 rfl) ?_
      refine lv_iload_n hx hb dX6_share_20 rfl (lv_at hl 1 rfl) ?_
      refine lv_iconst (v := -1) hx hb dX6_share_21 (by decide) ?_
      obtain ⟨r22, M22, g22, h⟩ := bd2_of h
      refine call_lV (As := [.int x1, .int (-1 : Int32)]) (rest := []) C hP hD hS (c_X6_tracked g22) (iL (by decide)) ⟨6, _, _, ent_6 (by decide), rfl, rfl⟩ (gV wd_1132 wd_1134 wd_53 wd_75 wd_1135) ev_X6_tracked ⟨rfl, rfl⟩ ⟨Nat.le_of_ble_eq_true rfl, Nat.le_of_ble_eq_true rfl⟩ hl.1 rfl (Nat.le_of_ble_eq_true rfl) dX6_share_22 (fun H locs hP hD hS => ?_)
      obtain ⟨r25, g25, h⟩ := bd_of h
      refine call_iS (As := [.long r22]) (rest := []) C hP hD hS (c_X6_bitsOf g25) (gS wd_999 wd_1000 wd_75 wd_1001) es_X6_bitsOf ⟨rfl, rfl⟩ ⟨Nat.le_of_ble_eq_true rfl, Nat.le_of_ble_eq_true rfl⟩ hl.1 rfl (Nat.le_of_ble_eq_true rfl) dX6_share_25 (fun H locs hP hD hS => ?_)
      refine lv_i2l (v := (r25.toInt64)) hx hb dX6_share_28 rfl ?_
      refine lv_ldc2 hx hb hown (hts _ wd_1188) dX6_share_29 ?_
      refine lv_iload_n hx hb dX6_share_32 rfl (lv_at hl 2 rfl) ?_
      obtain ⟨r33, g33, h⟩ := bd_of h
      refine call_lS (As := [.long (r25.toInt64), .long (64 : Int64), .int x2]) (rest := []) C hP hD hS (c_X6_lowest g33) (gS wd_1189 wd_1190 wd_75 wd_1191) es_X6_lowest ⟨rfl, rfl⟩ ⟨Nat.le_of_ble_eq_true rfl, Nat.le_of_ble_eq_true rfl⟩ hl.1 rfl (Nat.le_of_ble_eq_true rfl) dX6_share_33 (fun H locs hP hD hS => ?_)
      refine lv_goto (tgt := 42) hx hb dX6_share_36 (by decide) ?_
      exact rt_l (r := r33) C hP hD hS dX6_share_42 (rw_end h)
def f_X6_share (N : Nat) (x1 : Int32) (x2 : Int32) (M : Mem) : Option (Int64 × Mem) := b_X6_share_0 N x1 x2 M
theorem c_X6_share {l : Launch} {D : va_G} {cy : Nat → ClassId} {ad : Nat → Nat} {zz : (Nat → Nat) × (Nat → Nat)} {N : Nat} {x1 : Int32} {x2 : Int32} {M : Mem} {rr : Int64} {M' : Mem} (h : f_X6_share N x1 x2 M = some (rr, M')) : CTl l D cy ad zz 100 21 yX6_share (.code yX6_share cX6_share 3 (some .long) :: tb) ({ frames := 7, cells := 0, slots := 0, locals := 165 } : Room) [.ref (ad 100), .int x1, .int x2] M rr M' := by
  intro sz
  refine CX.of (by decide +kernel) (fun p e s m args below meth c H ls C hP hD hS hl => ?_) (Nat.le_of_ble_eq_true rfl)
  exact w_X6_share_0 C hP hD hS hl h
theorem ev_X6_share : yX6_share.cls = RX6 ∧ yX6_share.cls ≠ "java/lang/invoke/MethodHandle" ∧ yX6_share.cls ≠ "java/lang/invoke/VarHandle" ∧ (parseMethodDescriptor yX6_share.desc).map (fun d => d.parameters.length) = some 2 := by decide +kernel
def b_X6_sheetWrong_0 (M : Mem) (x1 : Int32) : Option (Int32) := (f_X6_in x1 (0 : Int32) (3 : Int32) M).bind fun r3 => (if r3 = true then gd (inb x1 (len 111)) ((if (AI M 111 x1.toNatClampNeg) = (-1 : Int32) then some (-11 : Int32) else gd (inb x1 (len 112)) ((if (AI M 112 x1.toNatClampNeg) ≤ (20 : Int32) then some (0 : Int32) else some (-2 : Int32))))) else some (-2 : Int32))
set_option maxHeartbeats 4000000 in
set_option maxRecDepth 100000 in
theorem w_X6_sheetWrong_0 (C : CX p s m args meth c cX6_sheetWrong 2 (some .int) RX6 D cy ad zz 100 21 A) {M : Mem} {x1 : Int32} {rr : Int32} {H : Heap} {locs : List Loc} (hP : va_P D vwCl (pool cy ad 100 21 M) H) (hD : va_D A (pool cy ad 100 21 M)) (hS : va_S A s.heap H locs) {ls : Array Slot} (hl : lv_has ls 2 [(0, .ref (ad 100)), (1, .int x1)]) (h : b_X6_sheetWrong_0 M x1 = some rr) : W p l e ({ frames := 1, cells := 0, slots := 0, locals := 22 } : Room) s m args below meth c H locs 0 0 (MQ below (va_Qi (fun (x : Int32) (_ : Unit) => x = rr) (fun _ t => PA D cy ad 100 21 A M t) A) args s 0 0 A) (F0 m 0 ls []) := by
  obtain ⟨hx, hb, hml, hown, hts, hr, hlk, hK, hN, hA, hX⟩ := id C
  unfold b_X6_sheetWrong_0 at h
  refine lv_iload_n hx hb dX6_sheetWrong_0 rfl (lv_at hl 1 rfl) ?_
  refine lv_iconst (v := 0) hx hb dX6_sheetWrong_1 (by decide) ?_
  refine lv_iconst (v := 3) hx hb dX6_sheetWrong_2 (by decide) ?_
  obtain ⟨r3, g3, h⟩ := bd_of h
  refine call_iS (As := [.int x1, .int (0 : Int32), .int (3 : Int32)]) (rest := []) C hP hD hS (c_X6_in g3) (gS wd_843 wd_844 wd_75 wd_845) es_X6_in ⟨rfl, rfl⟩ ⟨Nat.le_of_ble_eq_true rfl, Nat.le_of_ble_eq_true rfl⟩ hl.1 rfl (Nat.le_of_ble_eq_true rfl) dX6_sheetWrong_3 (fun H locs hP hD hS => ?_)
  refine lv_if_ne (tgt := 12) hx hb dX6_sheetWrong_6 (by decide) (fun c6 => ?_) (fun c6 => ?_)
  · replace h := it_t (b2i_1 c6) h
    refine lv_aload_n hx hb dX6_sheetWrong_12 rfl (lv_at hl 0 rfl) ?_
    refine gf_6_18 C hP (iL (by decide)) (by decide) wd_900 dX6_sheetWrong_13 ?_
    refine lv_iload_n hx hb dX6_sheetWrong_16 rfl (lv_at hl 1 rfl) ?_
    obtain ⟨gi1, h⟩ := gd_of h
    refine ia_ld C hP (iL (by decide)) (by decide) gi1 dX6_sheetWrong_17 ?_
    refine lv_iconst (v := -1) hx hb dX6_sheetWrong_18 (by decide) ?_
    refine lv_icmp_ne (tgt := 25) hx hb dX6_sheetWrong_19 (by decide) (fun c19 => ?_) (fun c19 => ?_)
    · replace h := it_f c19 h
      refine lv_aload_n hx hb dX6_sheetWrong_25 rfl (lv_at hl 0 rfl) ?_
      refine gf_6_19 C hP (iL (by decide)) (by decide) wd_901 dX6_sheetWrong_26 ?_
      refine lv_iload_n hx hb dX6_sheetWrong_29 rfl (lv_at hl 1 rfl) ?_
      obtain ⟨gi2, h⟩ := gd_of h
      refine ia_ld C hP (iL (by decide)) (by decide) gi2 dX6_sheetWrong_30 ?_
      refine lv_bipush (v := 20) hx hb dX6_sheetWrong_31 (by decide) ?_
      refine lv_icmp_le (tgt := 41) hx hb dX6_sheetWrong_33 (by decide) (fun c33 => ?_) (fun c33 => ?_)
      · replace h := it_t c33 h
        refine lv_iconst (v := 0) hx hb dX6_sheetWrong_41 (by decide) ?_
        exact rt_i (r := (0 : Int32)) C hP hD hS dX6_sheetWrong_42 ⟨Option.some.inj h, rfl⟩
      · replace h := it_f c33 h
        refine lv_bipush (v := -2) hx hb dX6_sheetWrong_36 (by decide) ?_
        refine lv_goto (tgt := 42) hx hb dX6_sheetWrong_38 (by decide) ?_
        exact rt_i (r := (-2 : Int32)) C hP hD hS dX6_sheetWrong_42 ⟨Option.some.inj h, rfl⟩
    · replace h := it_t c19 h
      refine lv_bipush (v := -11) hx hb dX6_sheetWrong_22 (by decide) ?_
      exact rt_i (r := (-11 : Int32)) C hP hD hS dX6_sheetWrong_24 ⟨Option.some.inj h, rfl⟩
  · replace h := it_f (b2i_n c6) h
    refine lv_bipush (v := -2) hx hb dX6_sheetWrong_9 (by decide) ?_
    exact rt_i (r := (-2 : Int32)) C hP hD hS dX6_sheetWrong_11 ⟨Option.some.inj h, rfl⟩
def f_X6_sheetWrong (x1 : Int32) (M : Mem) : Option (Int32) := b_X6_sheetWrong_0 M x1
theorem c_X6_sheetWrong {l : Launch} {D : va_G} {cy : Nat → ClassId} {ad : Nat → Nat} {zz : (Nat → Nat) × (Nat → Nat)} {x1 : Int32} {M : Mem} {rr : Int32} (h : f_X6_sheetWrong x1 M = some rr) : CTi l D cy ad zz 100 21 yX6_sheetWrong (.code yX6_sheetWrong cX6_sheetWrong 2 (some .int) :: tb) ({ frames := 1, cells := 0, slots := 0, locals := 22 } : Room) [.ref (ad 100), .int x1] M rr M := by
  intro sz
  refine CX.of (by decide +kernel) (fun p e s m args below meth c H ls C hP hD hS hl => ?_) (Nat.le_of_ble_eq_true rfl)
  exact w_X6_sheetWrong_0 C hP hD hS hl h
theorem ev_X6_sheetWrong : yX6_sheetWrong.cls = RX6 ∧ yX6_sheetWrong.cls ≠ "java/lang/invoke/MethodHandle" ∧ yX6_sheetWrong.cls ≠ "java/lang/invoke/VarHandle" ∧ (parseMethodDescriptor yX6_sheetWrong.desc).map (fun d => d.parameters.length) = some 1 := by decide +kernel
def b_X6_toldWrong_0 (M : Mem) (x1 : Int32) (x2 : Int32) : Option (Int32) := (f_X6_sheetWrong x1 M).bind fun r2 => (if r2 = 0 then (f_X6_isOne x2 M).bind fun r16 => (if r16 = true then some (0 : Int32) else some (-5 : Int32)) else some r2)
set_option maxHeartbeats 4000000 in
set_option maxRecDepth 100000 in
theorem w_X6_toldWrong_0 (C : CX p s m args meth c cX6_toldWrong 4 (some .int) RX6 D cy ad zz 100 21 A) {M : Mem} {x1 : Int32} {x2 : Int32} {rr : Int32} {H : Heap} {locs : List Loc} (hP : va_P D vwCl (pool cy ad 100 21 M) H) (hD : va_D A (pool cy ad 100 21 M)) (hS : va_S A s.heap H locs) {ls : Array Slot} (hl : lv_has ls 4 [(0, .ref (ad 100)), (1, .int x1), (2, .int x2)]) (h : b_X6_toldWrong_0 M x1 x2 = some rr) : W p l e ({ frames := 2, cells := 0, slots := 0, locals := 43 } : Room) s m args below meth c H locs 0 0 (MQ below (va_Qi (fun (x : Int32) (_ : Unit) => x = rr) (fun _ t => PA D cy ad 100 21 A M t) A) args s 0 0 A) (F0 m 0 ls []) := by
  obtain ⟨hx, hb, hml, hown, hts, hr, hlk, hK, hN, hA, hX⟩ := id C
  unfold b_X6_toldWrong_0 at h
  refine lv_aload_n hx hb dX6_toldWrong_0 rfl (lv_at hl 0 rfl) ?_
  refine lv_iload_n hx hb dX6_toldWrong_1 rfl (lv_at hl 1 rfl) ?_
  obtain ⟨r2, g2, h⟩ := bd_of h
  refine call_iV (As := [.int x1]) (rest := []) C hP hD hS (c_X6_sheetWrong g2) (iL (by decide)) ⟨6, _, _, ent_6 (by decide), rfl, rfl⟩ (gV wd_1200 wd_1202 wd_60 wd_75 wd_1203) ev_X6_sheetWrong ⟨rfl, rfl⟩ ⟨Nat.le_of_ble_eq_true rfl, Nat.le_of_ble_eq_true rfl⟩ hl.1 rfl (Nat.le_of_ble_eq_true rfl) dX6_toldWrong_2 (fun H locs hP hD hS => ?_)
  refine lv_istore_n (lv' := [(3, .int r2), (0, .ref (ad 100)), (1, .int x1), (2, .int x2)]) hx hb dX6_toldWrong_5 rfl hl (by decide) rfl (fun ls hl => ?_)
  refine lv_iload_n hx hb dX6_toldWrong_6 rfl (lv_at hl 0 rfl) ?_
  refine lv_if_eq (tgt := 14) hx hb dX6_toldWrong_7 (by decide) (fun c7 => ?_) (fun c7 => ?_)
  · replace h := it_t c7 h
    refine lv_aload_n hx hb dX6_toldWrong_14 rfl (lv_at hl 1 rfl) ?_
    refine lv_iload_n hx hb dX6_toldWrong_15 rfl (lv_at hl 3 rfl) ?_
    obtain ⟨r16, g16, h⟩ := bd_of h
    refine call_iV (As := [.int x2]) (rest := []) C hP hD hS (c_X6_isOne g16) (iL (by decide)) ⟨6, _, _, ent_6 (by decide), rfl, rfl⟩ (gV wd_1034 wd_1036 wd_39 wd_75 wd_1037) ev_X6_isOne ⟨rfl, rfl⟩ ⟨Nat.le_of_ble_eq_true rfl, Nat.le_of_ble_eq_true rfl⟩ hl.1 rfl (Nat.le_of_ble_eq_true rfl) dX6_toldWrong_16 (fun H locs hP hD hS => ?_)
    refine lv_if_eq (tgt := 26) hx hb dX6_toldWrong_19 (by decide) (fun c19 => ?_) (fun c19 => ?_)
    · replace h := it_f (b2i_n c19) h
      refine lv_bipush (v := -5) hx hb dX6_toldWrong_26 (by decide) ?_
      exact rt_i (r := (-5 : Int32)) C hP hD hS dX6_toldWrong_28 ⟨Option.some.inj h, rfl⟩
    · replace h := it_t (b2i_1 c19) h
      refine lv_iconst (v := 0) hx hb dX6_toldWrong_22 (by decide) ?_
      refine lv_goto (tgt := 28) hx hb dX6_toldWrong_23 (by decide) ?_
      exact rt_i (r := (0 : Int32)) C hP hD hS dX6_toldWrong_28 ⟨Option.some.inj h, rfl⟩
  · replace h := it_f c7 h
    refine lv_iload_n hx hb dX6_toldWrong_10 rfl (lv_at hl 0 rfl) ?_
    refine lv_goto (tgt := 28) hx hb dX6_toldWrong_11 (by decide) ?_
    exact rt_i (r := r2) C hP hD hS dX6_toldWrong_28 ⟨Option.some.inj h, rfl⟩
def f_X6_toldWrong (x1 : Int32) (x2 : Int32) (M : Mem) : Option (Int32) := b_X6_toldWrong_0 M x1 x2
theorem c_X6_toldWrong {l : Launch} {D : va_G} {cy : Nat → ClassId} {ad : Nat → Nat} {zz : (Nat → Nat) × (Nat → Nat)} {x1 : Int32} {x2 : Int32} {M : Mem} {rr : Int32} (h : f_X6_toldWrong x1 x2 M = some rr) : CTi l D cy ad zz 100 21 yX6_toldWrong (.code yX6_toldWrong cX6_toldWrong 4 (some .int) :: tb) ({ frames := 2, cells := 0, slots := 0, locals := 43 } : Room) [.ref (ad 100), .int x1, .int x2] M rr M := by
  intro sz
  refine CX.of (by decide +kernel) (fun p e s m args below meth c H ls C hP hD hS hl => ?_) (Nat.le_of_ble_eq_true rfl)
  exact w_X6_toldWrong_0 C hP hD hS hl h
theorem ev_X6_toldWrong : yX6_toldWrong.cls = RX6 ∧ yX6_toldWrong.cls ≠ "java/lang/invoke/MethodHandle" ∧ yX6_toldWrong.cls ≠ "java/lang/invoke/VarHandle" ∧ (parseMethodDescriptor yX6_toldWrong.desc).map (fun d => d.parameters.length) = some 2 := by decide +kernel
def b_X6_unlike_65 (N : Nat) (x1 : Int32) (x2 : Int32) (x3 : Int32) (M : Mem) : Option (Int32 × Mem) := (f_X6_lays N M).bind fun M66 => some (x3, M66)
set_option maxHeartbeats 4000000 in
set_option maxRecDepth 100000 in
theorem w_X6_unlike_65 (C : CX p s m args meth c cX6_unlike 5 (some .int) RX6 D cy ad zz 100 21 A) {N : Nat} {M : Mem} {x1 : Int32} {x2 : Int32} {rr : Int32} {M' : Mem} {x3 : Int32} {H : Heap} {locs : List Loc} (hP : va_P D vwCl (pool cy ad 100 21 M) H) (hD : va_D A (pool cy ad 100 21 M)) (hS : va_S A s.heap H locs) {ls : Array Slot} (hl : lv_has ls 5 [(0, .ref (ad 100)), (3, .int x3)]) (h : b_X6_unlike_65 N x1 x2 x3 M = some (rr, M')) : W p l e ({ frames := 5, cells := 0, slots := 0, locals := 118 } : Room) s m args below meth c H locs 0 0 (MQ below (va_Qi (fun (x : Int32) (_ : Unit) => x = rr) (fun _ t => PA D cy ad 100 21 A M' t) A) args s 0 0 A) (F0 m 65 ls []) := by
  obtain ⟨hx, hb, hml, hown, hts, hr, hlk, hK, hN, hA, hX⟩ := id C
  unfold b_X6_unlike_65 at h
  refine lv_aload_n hx hb dX6_unlike_65 rfl (lv_at hl 0 rfl) ?_
  obtain ⟨M66, g66, h⟩ := bd_of h
  refine call_vV (As := []) (rest := []) C hP hD hS (c_X6_lays g66) (iL (by decide)) ⟨6, _, _, ent_6 (by decide), rfl, rfl⟩ (gV wd_1124 wd_1126 wd_52 wd_75 wd_1127) ev_X6_lays ⟨rfl, rfl⟩ ⟨Nat.le_of_ble_eq_true rfl, Nat.le_of_ble_eq_true rfl⟩ hl.1 rfl (Nat.le_of_ble_eq_true rfl) dX6_unlike_66 (fun H locs hP hD hS => ?_)
  refine lv_iload_n hx hb dX6_unlike_69 rfl (lv_at hl 1 rfl) ?_
  exact rt_i (r := x3) C hP hD hS dX6_unlike_70 (rw_end h)
def b_X6_unlike_58 (N : Nat) (x1 : Int32) (x2 : Int32) (k9 : Int32 → Int32 → Mem → Option (Int32 × Mem)) (x4 : Int32) (t0 : Int32) (M : Mem) : Option (Int32 × Mem) := k9 t0 (x4 + (1 : Int32)) M
set_option maxHeartbeats 4000000 in
set_option maxRecDepth 100000 in
theorem w_X6_unlike_58 (C : CX p s m args meth c cX6_unlike 5 (some .int) RX6 D cy ad zz 100 21 A) {N : Nat} {M : Mem} {x1 : Int32} {x2 : Int32} {k9 : Int32 → Int32 → Mem → Option (Int32 × Mem)} {rr : Int32} {M' : Mem} (hk9 : ∀ (x3 : Int32), ∀ (x4 : Int32), ∀ (M : Mem), ∀ (H : Heap) (locs : List Loc), va_P D vwCl (pool cy ad 100 21 M) H → va_D A (pool cy ad 100 21 M) → va_S A s.heap H locs → ∀ (ls : Array Slot), lv_has ls 5 [(0, .ref (ad 100)), (1, .int x1), (2, .int x2), (3, .int x3), (4, .int x4)] → k9 x3 x4 M = some (rr, M') → W p l e ({ frames := 5, cells := 0, slots := 0, locals := 118 } : Room) s m args below meth c H locs 0 0 (MQ below (va_Qi (fun (x : Int32) (_ : Unit) => x = rr) (fun _ t => PA D cy ad 100 21 A M' t) A) args s 0 0 A) (F0 m 9 ls [])) {x4 : Int32} {t0 : Int32} {H : Heap} {locs : List Loc} (hP : va_P D vwCl (pool cy ad 100 21 M) H) (hD : va_D A (pool cy ad 100 21 M)) (hS : va_S A s.heap H locs) {ls : Array Slot} (hl : lv_has ls 5 [(0, .ref (ad 100)), (1, .int x1), (2, .int x2), (4, .int x4)]) (h : b_X6_unlike_58 N x1 x2 k9 x4 t0 M = some (rr, M')) : W p l e ({ frames := 5, cells := 0, slots := 0, locals := 118 } : Room) s m args below meth c H locs 0 0 (MQ below (va_Qi (fun (x : Int32) (_ : Unit) => x = rr) (fun _ t => PA D cy ad 100 21 A M' t) A) args s 0 0 A) (F0 m 58 ls [.int t0]) := by
  obtain ⟨hx, hb, hml, hown, hts, hr, hlk, hK, hN, hA, hX⟩ := id C
  unfold b_X6_unlike_58 at h
  refine lv_istore_n (lv' := [(3, .int t0), (0, .ref (ad 100)), (1, .int x1), (2, .int x2), (4, .int x4)]) hx hb dX6_unlike_58 rfl hl (by decide) rfl (fun ls hl => ?_)
  refine lv_iinc (v := (x4 + (1 : Int32))) (lv' := [(4, .int (x4 + (1 : Int32))), (3, .int t0), (0, .ref (ad 100)), (1, .int x1), (2, .int x2)]) hx hb dX6_unlike_59 hl (k := 4) rfl rfl (by decide) rfl (fun ls hl => ?_)
  refine lv_goto (tgt := 9) hx hb dX6_unlike_62 (by decide) ?_
  exact hk9 _ _ _ _ _ hP hD hS _ (lv_sub hl [2, 3, 4, 1, 0] rfl) h
def b_X6_unlike_9 (N : Nat) (x1 : Int32) (x2 : Int32) : Nat → Int32 → Int32 → Mem → Option (Int32 × Mem)
  | 0, _, _, _ => none
  | fu + 1, x3, x4, M => gd (inb x1 (len 112)) ((if (AI M 112 x1.toNatClampNeg) ≤ x4 then b_X6_unlike_65 N x1 x2 x3 M else (if x3 = (-1 : Int32) then (f_X6_nightOf N M).bind fun M26 => gd (inb (((40 : Int32) * x1) + x4) (len 113)) (gd (inb ((5 : Int32) * x2) (len 103)) ((if (AI M26 113 (((40 : Int32) * x1) + x4).toNatClampNeg) = (AI M26 103 ((5 : Int32) * x2).toNatClampNeg) then b_X6_unlike_58 N x1 x2 (b_X6_unlike_9 N x1 x2 fu) x4 (-1 : Int32) M26 else b_X6_unlike_58 N x1 x2 (b_X6_unlike_9 N x1 x2 fu) x4 x4 M26))) else b_X6_unlike_65 N x1 x2 x3 M)))
set_option maxHeartbeats 4000000 in
set_option maxRecDepth 100000 in
theorem w_X6_unlike_9 (C : CX p s m args meth c cX6_unlike 5 (some .int) RX6 D cy ad zz 100 21 A) {N : Nat} {x1 : Int32} {x2 : Int32} {rr : Int32} {M' : Mem}  : ∀ (fu : Nat), ∀ (x3 : Int32), ∀ (x4 : Int32), ∀ (M : Mem), ∀ (H : Heap) (locs : List Loc), va_P D vwCl (pool cy ad 100 21 M) H → va_D A (pool cy ad 100 21 M) → va_S A s.heap H locs → ∀ (ls : Array Slot), lv_has ls 5 [(0, .ref (ad 100)), (1, .int x1), (2, .int x2), (3, .int x3), (4, .int x4)] → b_X6_unlike_9 N x1 x2 fu x3 x4 M = some (rr, M') → W p l e ({ frames := 5, cells := 0, slots := 0, locals := 118 } : Room) s m args below meth c H locs 0 0 (MQ below (va_Qi (fun (x : Int32) (_ : Unit) => x = rr) (fun _ t => PA D cy ad 100 21 A M' t) A) args s 0 0 A) (F0 m 9 ls []) := by
  obtain ⟨hx, hb, hml, hown, hts, hr, hlk, hK, hN, hA, hX⟩ := id C
  intro fu
  induction fu with
  | zero =>
    intro x3 x4 M H locs hP hD hS ls hl h
    exact no_some (show none = some _ from h)
  | succ fu ih =>
    intro x3 x4 M H locs hP hD hS ls hl h
    rw [b_X6_unlike_9] at h
    refine lv_iload hx hb dX6_unlike_9 (lv_at hl 4 rfl) ?_
    refine lv_aload_n hx hb dX6_unlike_11 rfl (lv_at hl 0 rfl) ?_
    refine gf_6_19 C hP (iL (by decide)) (by decide) wd_901 dX6_unlike_12 ?_
    refine lv_iload_n hx hb dX6_unlike_15 rfl (lv_at hl 1 rfl) ?_
    obtain ⟨gi1, h⟩ := gd_of h
    refine ia_ld C hP (iL (by decide)) (by decide) gi1 dX6_unlike_16 ?_
    refine lv_icmp_ge (tgt := 65) hx hb dX6_unlike_17 (by decide) (fun c17 => ?_) (fun c17 => ?_)
    · replace h := it_t c17 h
      exact w_X6_unlike_65 C hP hD hS (lv_sub hl [0, 3] rfl) h
    · replace h := it_f c17 h
      refine lv_iload_n hx hb dX6_unlike_20 rfl (lv_at hl 3 rfl) ?_
      refine lv_iconst (v := -1) hx hb dX6_unlike_21 (by decide) ?_
      refine lv_icmp_ne (tgt := 65) hx hb dX6_unlike_22 (by decide) (fun c22 => ?_) (fun c22 => ?_)
      · replace h := it_f c22 h
        exact w_X6_unlike_65 C hP hD hS (lv_sub hl [0, 3] rfl) h
      · replace h := it_t c22 h
        refine lv_aload_n hx hb dX6_unlike_25 rfl (lv_at hl 0 rfl) ?_
        obtain ⟨M26, g26, h⟩ := bd_of h
        refine call_vV (As := []) (rest := []) C hP hD hS (c_X6_nightOf g26) (iL (by decide)) ⟨6, _, _, ent_6 (by decide), rfl, rfl⟩ (gV wd_1088 wd_1090 wd_45 wd_75 wd_1091) ev_X6_nightOf ⟨rfl, rfl⟩ ⟨Nat.le_of_ble_eq_true rfl, Nat.le_of_ble_eq_true rfl⟩ hl.1 rfl (Nat.le_of_ble_eq_true rfl) dX6_unlike_26 (fun H locs hP hD hS => ?_)
        refine lv_aload_n hx hb dX6_unlike_29 rfl (lv_at hl 0 rfl) ?_
        refine gf_6_20 C hP (iL (by decide)) (by decide) wd_902 dX6_unlike_30 ?_
        refine lv_bipush (v := 40) hx hb dX6_unlike_33 (by decide) ?_
        refine lv_iload_n hx hb dX6_unlike_35 rfl (lv_at hl 1 rfl) ?_
        refine lv_imul hx hb dX6_unlike_36 ?_
        refine lv_iload hx hb dX6_unlike_37 (lv_at hl 4 rfl) ?_
        refine lv_iadd hx hb dX6_unlike_39 ?_
        obtain ⟨gi2, h⟩ := gd_of h
        refine ia_ld C hP (iL (by decide)) (by decide) gi2 dX6_unlike_40 ?_
        refine lv_aload_n hx hb dX6_unlike_41 rfl (lv_at hl 0 rfl) ?_
        refine gf_6_3 C hP (iL (by decide)) (by decide) wd_885 dX6_unlike_42 ?_
        refine lv_iconst (v := 5) hx hb dX6_unlike_45 (by decide) ?_
        refine lv_iload_n hx hb dX6_unlike_46 rfl (lv_at hl 2 rfl) ?_
        refine lv_imul hx hb dX6_unlike_47 ?_
        obtain ⟨gi3, h⟩ := gd_of h
        refine ia_ld C hP (iL (by decide)) (by decide) gi3 dX6_unlike_48 ?_
        refine lv_icmp_ne (tgt := 56) hx hb dX6_unlike_49 (by decide) (fun c49 => ?_) (fun c49 => ?_)
        · replace h := it_f c49 h
          refine lv_iload hx hb dX6_unlike_56 (lv_at hl 4 rfl) ?_
          exact w_X6_unlike_58 C ih hP hD hS (lv_sub hl [0, 1, 2, 4] rfl) h
        · replace h := it_t c49 h
          refine lv_iconst (v := -1) hx hb dX6_unlike_52 (by decide) ?_
          refine lv_goto (tgt := 58) hx hb dX6_unlike_53 (by decide) ?_
          exact w_X6_unlike_58 C ih hP hD hS (lv_sub hl [0, 1, 2, 4] rfl) h
def b_X6_unlike_0 (N : Nat) (x1 : Int32) (x2 : Int32) (M : Mem) : Option (Int32 × Mem) := (f_X6_keeps N M).bind fun M3 => b_X6_unlike_9 N x1 x2 N (-1 : Int32) (0 : Int32) M3
set_option maxHeartbeats 4000000 in
set_option maxRecDepth 100000 in
theorem w_X6_unlike_0 (C : CX p s m args meth c cX6_unlike 5 (some .int) RX6 D cy ad zz 100 21 A) {N : Nat} {M : Mem} {x1 : Int32} {x2 : Int32} {rr : Int32} {M' : Mem} {H : Heap} {locs : List Loc} (hP : va_P D vwCl (pool cy ad 100 21 M) H) (hD : va_D A (pool cy ad 100 21 M)) (hS : va_S A s.heap H locs) {ls : Array Slot} (hl : lv_has ls 5 [(0, .ref (ad 100)), (1, .int x1), (2, .int x2)]) (h : b_X6_unlike_0 N x1 x2 M = some (rr, M')) : W p l e ({ frames := 5, cells := 0, slots := 0, locals := 118 } : Room) s m args below meth c H locs 0 0 (MQ below (va_Qi (fun (x : Int32) (_ : Unit) => x = rr) (fun _ t => PA D cy ad 100 21 A M' t) A) args s 0 0 A) (F0 m 0 ls []) := by
  obtain ⟨hx, hb, hml, hown, hts, hr, hlk, hK, hN, hA, hX⟩ := id C
  unfold b_X6_unlike_0 at h
  refine lv_iconst (v := -1) hx hb dX6_unlike_0 (by decide) ?_
  refine lv_istore_n (lv' := [(3, .int (-1 : Int32)), (0, .ref (ad 100)), (1, .int x1), (2, .int x2)]) hx hb dX6_unlike_1 rfl hl (by decide) rfl (fun ls hl => ?_)
  refine lv_aload_n hx hb dX6_unlike_2 rfl (lv_at hl 1 rfl) ?_
  obtain ⟨M3, g3, h⟩ := bd_of h
  refine call_vV (As := []) (rest := []) C hP hD hS (c_X6_keeps g3) (iL (by decide)) ⟨6, _, _, ent_6 (by decide), rfl, rfl⟩ (gV wd_1104 wd_1106 wd_47 wd_75 wd_1107) ev_X6_keeps ⟨rfl, rfl⟩ ⟨Nat.le_of_ble_eq_true rfl, Nat.le_of_ble_eq_true rfl⟩ hl.1 rfl (Nat.le_of_ble_eq_true rfl) dX6_unlike_3 (fun H locs hP hD hS => ?_)
  refine lv_iconst (v := 0) hx hb dX6_unlike_6 (by decide) ?_
  refine lv_istore (lv' := [(4, .int (0 : Int32)), (3, .int (-1 : Int32)), (0, .ref (ad 100)), (1, .int x1), (2, .int x2)]) hx hb dX6_unlike_7 hl (by decide) rfl (fun ls hl => ?_)
  exact w_X6_unlike_9 C N _ _ _ _ _ hP hD hS _ (lv_sub hl [2, 3, 4, 1, 0] rfl) h
def f_X6_unlike (N : Nat) (x1 : Int32) (x2 : Int32) (M : Mem) : Option (Int32 × Mem) := b_X6_unlike_0 N x1 x2 M
theorem c_X6_unlike {l : Launch} {D : va_G} {cy : Nat → ClassId} {ad : Nat → Nat} {zz : (Nat → Nat) × (Nat → Nat)} {N : Nat} {x1 : Int32} {x2 : Int32} {M : Mem} {rr : Int32} {M' : Mem} (h : f_X6_unlike N x1 x2 M = some (rr, M')) : CTi l D cy ad zz 100 21 yX6_unlike (.code yX6_unlike cX6_unlike 5 (some .int) :: tb) ({ frames := 5, cells := 0, slots := 0, locals := 118 } : Room) [.ref (ad 100), .int x1, .int x2] M rr M' := by
  intro sz
  refine CX.of (by decide +kernel) (fun p e s m args below meth c H ls C hP hD hS hl => ?_) (Nat.le_of_ble_eq_true rfl)
  exact w_X6_unlike_0 C hP hD hS hl h
theorem ev_X6_unlike : yX6_unlike.cls = RX6 ∧ yX6_unlike.cls ≠ "java/lang/invoke/MethodHandle" ∧ yX6_unlike.cls ≠ "java/lang/invoke/VarHandle" ∧ (parseMethodDescriptor yX6_unlike.desc).map (fun d => d.parameters.length) = some 2 := by decide +kernel
def b_X6_judge_0 (N : Nat) (x1 : Int32) (x2 : Int32) (M : Mem) : Option (Int32 × Mem) := (f_X6_toldWrong x1 x2 M).bind fun r3 => (if r3 = 0 then bd2 (f_X6_unlike N x1 x2 M) fun r14 M14 => some (r14, M14) else some (r3, M))
set_option maxHeartbeats 4000000 in
set_option maxRecDepth 100000 in
theorem w_X6_judge_0 (C : CX p s m args meth c cX6_judge 4 (some .int) RX6 D cy ad zz 100 21 A) {N : Nat} {M : Mem} {x1 : Int32} {x2 : Int32} {rr : Int32} {M' : Mem} {H : Heap} {locs : List Loc} (hP : va_P D vwCl (pool cy ad 100 21 M) H) (hD : va_D A (pool cy ad 100 21 M)) (hS : va_S A s.heap H locs) {ls : Array Slot} (hl : lv_has ls 4 [(0, .ref (ad 100)), (1, .int x1), (2, .int x2)]) (h : b_X6_judge_0 N x1 x2 M = some (rr, M')) : W p l e ({ frames := 6, cells := 0, slots := 0, locals := 142 } : Room) s m args below meth c H locs 0 0 (MQ below (va_Qi (fun (x : Int32) (_ : Unit) => x = rr) (fun _ t => PA D cy ad 100 21 A M' t) A) args s 0 0 A) (F0 m 0 ls []) := by
  obtain ⟨hx, hb, hml, hown, hts, hr, hlk, hK, hN, hA, hX⟩ := id C
  unfold b_X6_judge_0 at h
  refine lv_aload_n hx hb dX6_judge_0 rfl (lv_at hl 0 rfl) ?_
  refine lv_iload_n hx hb dX6_judge_1 rfl (lv_at hl 1 rfl) ?_
  refine lv_iload_n hx hb dX6_judge_2 rfl (lv_at hl 2 rfl) ?_
  obtain ⟨r3, g3, h⟩ := bd_of h
  refine call_iV (As := [.int x1, .int x2]) (rest := []) C hP hD hS (c_X6_toldWrong g3) (iL (by decide)) ⟨6, _, _, ent_6 (by decide), rfl, rfl⟩ (gV wd_1196 wd_1198 wd_59 wd_75 wd_1199) ev_X6_toldWrong ⟨rfl, rfl⟩ ⟨Nat.le_of_ble_eq_true rfl, Nat.le_of_ble_eq_true rfl⟩ hl.1 rfl (Nat.le_of_ble_eq_true rfl) dX6_judge_3 (fun H locs hP hD hS => ?_)
  refine lv_istore_n (lv' := [(3, .int r3), (0, .ref (ad 100)), (1, .int x1), (2, .int x2)]) hx hb dX6_judge_6 rfl hl (by decide) rfl (fun ls hl => ?_)
  refine lv_iload_n hx hb dX6_judge_7 rfl (lv_at hl 0 rfl) ?_
  refine lv_if_ne (tgt := 20) hx hb dX6_judge_8 (by decide) (fun c8 => ?_) (fun c8 => ?_)
  · replace h := it_f c8 h
    refine lv_iload_n hx hb dX6_judge_20 rfl (lv_at hl 0 rfl) ?_
    exact rt_i (r := r3) C hP hD hS dX6_judge_21 (rw_end h)
  · replace h := it_t c8 h
    refine lv_aload_n hx hb dX6_judge_11 rfl (lv_at hl 1 rfl) ?_
    refine lv_iload_n hx hb dX6_judge_12 rfl (lv_at hl 2 rfl) ?_
    refine lv_iload_n hx hb dX6_judge_13 rfl (lv_at hl 3 rfl) ?_
    obtain ⟨r14, M14, g14, h⟩ := bd2_of h
    refine call_iV (As := [.int x1, .int x2]) (rest := []) C hP hD hS (c_X6_unlike g14) (iL (by decide)) ⟨6, _, _, ent_6 (by decide), rfl, rfl⟩ (gV wd_1204 wd_1206 wd_61 wd_75 wd_1207) ev_X6_unlike ⟨rfl, rfl⟩ ⟨Nat.le_of_ble_eq_true rfl, Nat.le_of_ble_eq_true rfl⟩ hl.1 rfl (Nat.le_of_ble_eq_true rfl) dX6_judge_14 (fun H locs hP hD hS => ?_)
    refine lv_goto (tgt := 21) hx hb dX6_judge_17 (by decide) ?_
    exact rt_i (r := r14) C hP hD hS dX6_judge_21 (rw_end h)
def f_X6_judge (N : Nat) (x1 : Int32) (x2 : Int32) (M : Mem) : Option (Int32 × Mem) := b_X6_judge_0 N x1 x2 M
theorem c_X6_judge {l : Launch} {D : va_G} {cy : Nat → ClassId} {ad : Nat → Nat} {zz : (Nat → Nat) × (Nat → Nat)} {N : Nat} {x1 : Int32} {x2 : Int32} {M : Mem} {rr : Int32} {M' : Mem} (h : f_X6_judge N x1 x2 M = some (rr, M')) : CTi l D cy ad zz 100 21 yX6_judge (.code yX6_judge cX6_judge 4 (some .int) :: tb) ({ frames := 6, cells := 0, slots := 0, locals := 142 } : Room) [.ref (ad 100), .int x1, .int x2] M rr M' := by
  intro sz
  refine CX.of (by decide +kernel) (fun p e s m args below meth c H ls C hP hD hS hl => ?_) (Nat.le_of_ble_eq_true rfl)
  exact w_X6_judge_0 C hP hD hS hl h
theorem ev_X6_judge : yX6_judge.cls = RX6 ∧ yX6_judge.cls ≠ "java/lang/invoke/MethodHandle" ∧ yX6_judge.cls ≠ "java/lang/invoke/VarHandle" ∧ (parseMethodDescriptor yX6_judge.desc).map (fun d => d.parameters.length) = some 2 := by decide +kernel
def b_X6_kinds_138 (N : Nat) (x1 : Int32) (x2 : Int32) (x3 : Int32) (x6 : Int32) (x7 : Int32) (M : Mem) : Option (Int32 × Mem) := gd (inb x2 (len 102)) (some (x7, (sAI M 102 x2.toNatClampNeg x6)))
set_option maxHeartbeats 4000000 in
set_option maxRecDepth 100000 in
theorem w_X6_kinds_138 (C : CX p s m args meth c cX6_kinds 9 (some .int) RX6 D cy ad zz 100 21 A) {N : Nat} {M : Mem} {x1 : Int32} {x2 : Int32} {x3 : Int32} {rr : Int32} {M' : Mem} {x6 : Int32} {x7 : Int32} {H : Heap} {locs : List Loc} (hP : va_P D vwCl (pool cy ad 100 21 M) H) (hD : va_D A (pool cy ad 100 21 M)) (hS : va_S A s.heap H locs) {ls : Array Slot} (hl : lv_has ls 9 [(0, .ref (ad 100)), (2, .int x2), (6, .int x6), (7, .int x7)]) (h : b_X6_kinds_138 N x1 x2 x3 x6 x7 M = some (rr, M')) : W p l e ({ frames := 6, cells := 0, slots := 0, locals := 142 } : Room) s m args below meth c H locs 0 0 (MQ below (va_Qi (fun (x : Int32) (_ : Unit) => x = rr) (fun _ t => PA D cy ad 100 21 A M' t) A) args s 0 0 A) (F0 m 138 ls []) := by
  obtain ⟨hx, hb, hml, hown, hts, hr, hlk, hK, hN, hA, hX⟩ := id C
  unfold b_X6_kinds_138 at h
  refine lv_aload_n hx hb dX6_kinds_138 rfl (lv_at hl 0 rfl) ?_
  refine gf_6_2 C hP (iL (by decide)) (by decide) wd_884 dX6_kinds_139 ?_
  refine lv_iload_n hx hb dX6_kinds_142 rfl (lv_at hl 1 rfl) ?_
  refine lv_iload hx hb dX6_kinds_143 (lv_at hl 2 rfl) ?_
  obtain ⟨gi1, h⟩ := gd_of h
  refine ia_st C hP hD hS (iL (by decide)) (by decide) gi1 dX6_kinds_145 (fun H locs hP hD hS => ?_)
  refine lv_iload hx hb dX6_kinds_146 (lv_at hl 3 rfl) ?_
  exact rt_i (r := x7) C hP hD hS dX6_kinds_148 (rw_end h)
def b_X6_kinds_121 (N : Nat) (x1 : Int32) (x2 : Int32) (x3 : Int32) (k50 : Int32 → Int32 → Int32 → Int32 → Mem → Option (Int32 × Mem)) (x5 : Int32) (x6 : Int32) (x8 : Int32) (t0 : Int32) (t1 : Int32) (M : Mem) : Option (Int32 × Mem) := k50 x5 x6 (t0 ||| t1) (x8 + (1 : Int32)) M
set_option maxHeartbeats 4000000 in
set_option maxRecDepth 100000 in
theorem w_X6_kinds_121 (C : CX p s m args meth c cX6_kinds 9 (some .int) RX6 D cy ad zz 100 21 A) {N : Nat} {M : Mem} {x1 : Int32} {x2 : Int32} {x3 : Int32} {k50 : Int32 → Int32 → Int32 → Int32 → Mem → Option (Int32 × Mem)} {rr : Int32} {M' : Mem} (hk50 : ∀ (x5 : Int32), ∀ (x6 : Int32), ∀ (x7 : Int32), ∀ (x8 : Int32), ∀ (M : Mem), ∀ (H : Heap) (locs : List Loc), va_P D vwCl (pool cy ad 100 21 M) H → va_D A (pool cy ad 100 21 M) → va_S A s.heap H locs → ∀ (ls : Array Slot), lv_has ls 9 [(0, .ref (ad 100)), (1, .int x1), (2, .int x2), (3, .int x3), (5, .int x5), (6, .int x6), (7, .int x7), (8, .int x8)] → k50 x5 x6 x7 x8 M = some (rr, M') → W p l e ({ frames := 6, cells := 0, slots := 0, locals := 142 } : Room) s m args below meth c H locs 0 0 (MQ below (va_Qi (fun (x : Int32) (_ : Unit) => x = rr) (fun _ t => PA D cy ad 100 21 A M' t) A) args s 0 0 A) (F0 m 50 ls [])) {x5 : Int32} {x6 : Int32} {x8 : Int32} {t0 : Int32} {t1 : Int32} {H : Heap} {locs : List Loc} (hP : va_P D vwCl (pool cy ad 100 21 M) H) (hD : va_D A (pool cy ad 100 21 M)) (hS : va_S A s.heap H locs) {ls : Array Slot} (hl : lv_has ls 9 [(0, .ref (ad 100)), (1, .int x1), (2, .int x2), (3, .int x3), (5, .int x5), (6, .int x6), (8, .int x8)]) (h : b_X6_kinds_121 N x1 x2 x3 k50 x5 x6 x8 t0 t1 M = some (rr, M')) : W p l e ({ frames := 6, cells := 0, slots := 0, locals := 142 } : Room) s m args below meth c H locs 0 0 (MQ below (va_Qi (fun (x : Int32) (_ : Unit) => x = rr) (fun _ t => PA D cy ad 100 21 A M' t) A) args s 0 0 A) (F0 m 121 ls [.int t1, .int t0]) := by
  obtain ⟨hx, hb, hml, hown, hts, hr, hlk, hK, hN, hA, hX⟩ := id C
  unfold b_X6_kinds_121 at h
  refine lv_ior hx hb dX6_kinds_121 ?_
  refine lv_istore (lv' := [(7, .int (t0 ||| t1)), (0, .ref (ad 100)), (1, .int x1), (2, .int x2), (3, .int x3), (5, .int x5), (6, .int x6), (8, .int x8)]) hx hb dX6_kinds_122 hl (by decide) rfl (fun ls hl => ?_)
  refine lv_iinc (v := (x8 + (1 : Int32))) (lv' := [(8, .int (x8 + (1 : Int32))), (7, .int (t0 ||| t1)), (0, .ref (ad 100)), (1, .int x1), (2, .int x2), (3, .int x3), (5, .int x5), (6, .int x6)]) hx hb dX6_kinds_124 hl (k := 7) rfl rfl (by decide) rfl (fun ls hl => ?_)
  refine lv_goto (tgt := 50) hx hb dX6_kinds_127 (by decide) ?_
  exact hk50 _ _ _ _ _ _ _ hP hD hS _ (lv_sub hl [2, 3, 4, 5, 6, 7, 1, 0] rfl) h
def b_X6_kinds_101 (N : Nat) (x1 : Int32) (x2 : Int32) (x3 : Int32) (k50 : Int32 → Int32 → Int32 → Int32 → Mem → Option (Int32 × Mem)) (x5 : Int32) (x6 : Int32) (x7 : Int32) (x8 : Int32) (M : Mem) : Option (Int32 × Mem) := bd2 (f_X6_unlike N x1 x2 M) fun r106 M106 => (if r106 = (-1 : Int32) then b_X6_kinds_121 N x1 x2 x3 k50 x5 x6 x8 x7 ((1 : Int32) <<< (x8 &&& 31)) M106 else b_X6_kinds_121 N x1 x2 x3 k50 x5 x6 x8 x7 (0 : Int32) M106)
set_option maxHeartbeats 4000000 in
set_option maxRecDepth 100000 in
theorem w_X6_kinds_101 (C : CX p s m args meth c cX6_kinds 9 (some .int) RX6 D cy ad zz 100 21 A) {N : Nat} {M : Mem} {x1 : Int32} {x2 : Int32} {x3 : Int32} {k50 : Int32 → Int32 → Int32 → Int32 → Mem → Option (Int32 × Mem)} {rr : Int32} {M' : Mem} (hk50 : ∀ (x5 : Int32), ∀ (x6 : Int32), ∀ (x7 : Int32), ∀ (x8 : Int32), ∀ (M : Mem), ∀ (H : Heap) (locs : List Loc), va_P D vwCl (pool cy ad 100 21 M) H → va_D A (pool cy ad 100 21 M) → va_S A s.heap H locs → ∀ (ls : Array Slot), lv_has ls 9 [(0, .ref (ad 100)), (1, .int x1), (2, .int x2), (3, .int x3), (5, .int x5), (6, .int x6), (7, .int x7), (8, .int x8)] → k50 x5 x6 x7 x8 M = some (rr, M') → W p l e ({ frames := 6, cells := 0, slots := 0, locals := 142 } : Room) s m args below meth c H locs 0 0 (MQ below (va_Qi (fun (x : Int32) (_ : Unit) => x = rr) (fun _ t => PA D cy ad 100 21 A M' t) A) args s 0 0 A) (F0 m 50 ls [])) {x5 : Int32} {x6 : Int32} {x7 : Int32} {x8 : Int32} {H : Heap} {locs : List Loc} (hP : va_P D vwCl (pool cy ad 100 21 M) H) (hD : va_D A (pool cy ad 100 21 M)) (hS : va_S A s.heap H locs) {ls : Array Slot} (hl : lv_has ls 9 [(0, .ref (ad 100)), (1, .int x1), (2, .int x2), (3, .int x3), (5, .int x5), (6, .int x6), (7, .int x7), (8, .int x8)]) (h : b_X6_kinds_101 N x1 x2 x3 k50 x5 x6 x7 x8 M = some (rr, M')) : W p l e ({ frames := 6, cells := 0, slots := 0, locals := 142 } : Room) s m args below meth c H locs 0 0 (MQ below (va_Qi (fun (x : Int32) (_ : Unit) => x = rr) (fun _ t => PA D cy ad 100 21 A M' t) A) args s 0 0 A) (F0 m 101 ls []) := by
  obtain ⟨hx, hb, hml, hown, hts, hr, hlk, hK, hN, hA, hX⟩ := id C
  unfold b_X6_kinds_101 at h
  refine lv_iload hx hb dX6_kinds_101 (lv_at hl 6 rfl) ?_
  refine lv_aload_n hx hb dX6_kinds_103 rfl (lv_at hl 0 rfl) ?_
  refine lv_iload_n hx hb dX6_kinds_104 rfl (lv_at hl 1 rfl) ?_
  refine lv_iload_n hx hb dX6_kinds_105 rfl (lv_at hl 2 rfl) ?_
  obtain ⟨r106, M106, g106, h⟩ := bd2_of h
  refine call_iV (As := [.int x1, .int x2]) (rest := [.int x7]) C hP hD hS (c_X6_unlike g106) (iL (by decide)) ⟨6, _, _, ent_6 (by decide), rfl, rfl⟩ (gV wd_1204 wd_1206 wd_61 wd_75 wd_1207) ev_X6_unlike ⟨rfl, rfl⟩ ⟨Nat.le_of_ble_eq_true rfl, Nat.le_of_ble_eq_true rfl⟩ hl.1 rfl (Nat.le_of_ble_eq_true rfl) dX6_kinds_106 (fun H locs hP hD hS => ?_)
  refine lv_iconst (v := -1) hx hb dX6_kinds_109 (by decide) ?_
  refine lv_icmp_ne (tgt := 120) hx hb dX6_kinds_110 (by decide) (fun c110 => ?_) (fun c110 => ?_)
  · replace h := it_f c110 h
    refine lv_iconst (v := 0) hx hb dX6_kinds_120 (by decide) ?_
    exact w_X6_kinds_121 C hk50 hP hD hS (lv_sub hl [0, 1, 2, 3, 4, 5, 7] rfl) h
  · replace h := it_t c110 h
    refine lv_iconst (v := 1) hx hb dX6_kinds_113 (by decide) ?_
    refine lv_iload hx hb dX6_kinds_114 (lv_at hl 7 rfl) ?_
    refine lv_ishl hx hb dX6_kinds_116 ?_
    refine lv_goto (tgt := 121) hx hb dX6_kinds_117 (by decide) ?_
    exact w_X6_kinds_121 C hk50 hP hD hS (lv_sub hl [0, 1, 2, 3, 4, 5, 7] rfl) h
def b_X6_kinds_100 (N : Nat) (x1 : Int32) (x2 : Int32) (x3 : Int32) (k50 : Int32 → Int32 → Int32 → Int32 → Mem → Option (Int32 × Mem)) (x5 : Int32) (x6 : Int32) (x7 : Int32) (x8 : Int32) (t1 : Int32) (t2 : Int32) (M : Mem) : Option (Int32 × Mem) := gd (inb t1 (len 102)) (b_X6_kinds_101 N x1 x2 x3 k50 x5 x6 x7 x8 (sAI M 102 t1.toNatClampNeg t2))
set_option maxHeartbeats 4000000 in
set_option maxRecDepth 100000 in
theorem w_X6_kinds_100 (C : CX p s m args meth c cX6_kinds 9 (some .int) RX6 D cy ad zz 100 21 A) {N : Nat} {M : Mem} {x1 : Int32} {x2 : Int32} {x3 : Int32} {k50 : Int32 → Int32 → Int32 → Int32 → Mem → Option (Int32 × Mem)} {rr : Int32} {M' : Mem} (hk50 : ∀ (x5 : Int32), ∀ (x6 : Int32), ∀ (x7 : Int32), ∀ (x8 : Int32), ∀ (M : Mem), ∀ (H : Heap) (locs : List Loc), va_P D vwCl (pool cy ad 100 21 M) H → va_D A (pool cy ad 100 21 M) → va_S A s.heap H locs → ∀ (ls : Array Slot), lv_has ls 9 [(0, .ref (ad 100)), (1, .int x1), (2, .int x2), (3, .int x3), (5, .int x5), (6, .int x6), (7, .int x7), (8, .int x8)] → k50 x5 x6 x7 x8 M = some (rr, M') → W p l e ({ frames := 6, cells := 0, slots := 0, locals := 142 } : Room) s m args below meth c H locs 0 0 (MQ below (va_Qi (fun (x : Int32) (_ : Unit) => x = rr) (fun _ t => PA D cy ad 100 21 A M' t) A) args s 0 0 A) (F0 m 50 ls [])) {x5 : Int32} {x6 : Int32} {x7 : Int32} {x8 : Int32} {t1 : Int32} {t2 : Int32} {H : Heap} {locs : List Loc} (hP : va_P D vwCl (pool cy ad 100 21 M) H) (hD : va_D A (pool cy ad 100 21 M)) (hS : va_S A s.heap H locs) {ls : Array Slot} (hl : lv_has ls 9 [(0, .ref (ad 100)), (1, .int x1), (2, .int x2), (3, .int x3), (5, .int x5), (6, .int x6), (7, .int x7), (8, .int x8)]) (h : b_X6_kinds_100 N x1 x2 x3 k50 x5 x6 x7 x8 t1 t2 M = some (rr, M')) : W p l e ({ frames := 6, cells := 0, slots := 0, locals := 142 } : Room) s m args below meth c H locs 0 0 (MQ below (va_Qi (fun (x : Int32) (_ : Unit) => x = rr) (fun _ t => PA D cy ad 100 21 A M' t) A) args s 0 0 A) (F0 m 100 ls [.int t2, .int t1, .ref (ad 102)]) := by
  obtain ⟨hx, hb, hml, hown, hts, hr, hlk, hK, hN, hA, hX⟩ := id C
  unfold b_X6_kinds_100 at h
  obtain ⟨gi1, h⟩ := gd_of h
  refine ia_st C hP hD hS (iL (by decide)) (by decide) gi1 dX6_kinds_100 (fun H locs hP hD hS => ?_)
  exact w_X6_kinds_101 C hk50 hP hD hS hl h
def b_X6_kinds_83 (N : Nat) (x1 : Int32) (x2 : Int32) (x3 : Int32) (k50 : Int32 → Int32 → Int32 → Int32 → Mem → Option (Int32 × Mem)) (x5 : Int32) (x6 : Int32) (x7 : Int32) (x8 : Int32) (M : Mem) : Option (Int32 × Mem) := (if x3 = (1 : Int32) then b_X6_kinds_100 N x1 x2 x3 k50 x5 x6 x7 x8 x2 x8 M else b_X6_kinds_100 N x1 x2 x3 k50 x5 x6 x7 x8 x2 x6 M)
set_option maxHeartbeats 4000000 in
set_option maxRecDepth 100000 in
theorem w_X6_kinds_83 (C : CX p s m args meth c cX6_kinds 9 (some .int) RX6 D cy ad zz 100 21 A) {N : Nat} {M : Mem} {x1 : Int32} {x2 : Int32} {x3 : Int32} {k50 : Int32 → Int32 → Int32 → Int32 → Mem → Option (Int32 × Mem)} {rr : Int32} {M' : Mem} (hk50 : ∀ (x5 : Int32), ∀ (x6 : Int32), ∀ (x7 : Int32), ∀ (x8 : Int32), ∀ (M : Mem), ∀ (H : Heap) (locs : List Loc), va_P D vwCl (pool cy ad 100 21 M) H → va_D A (pool cy ad 100 21 M) → va_S A s.heap H locs → ∀ (ls : Array Slot), lv_has ls 9 [(0, .ref (ad 100)), (1, .int x1), (2, .int x2), (3, .int x3), (5, .int x5), (6, .int x6), (7, .int x7), (8, .int x8)] → k50 x5 x6 x7 x8 M = some (rr, M') → W p l e ({ frames := 6, cells := 0, slots := 0, locals := 142 } : Room) s m args below meth c H locs 0 0 (MQ below (va_Qi (fun (x : Int32) (_ : Unit) => x = rr) (fun _ t => PA D cy ad 100 21 A M' t) A) args s 0 0 A) (F0 m 50 ls [])) {x5 : Int32} {x6 : Int32} {x7 : Int32} {x8 : Int32} {H : Heap} {locs : List Loc} (hP : va_P D vwCl (pool cy ad 100 21 M) H) (hD : va_D A (pool cy ad 100 21 M)) (hS : va_S A s.heap H locs) {ls : Array Slot} (hl : lv_has ls 9 [(0, .ref (ad 100)), (1, .int x1), (2, .int x2), (3, .int x3), (5, .int x5), (6, .int x6), (7, .int x7), (8, .int x8)]) (h : b_X6_kinds_83 N x1 x2 x3 k50 x5 x6 x7 x8 M = some (rr, M')) : W p l e ({ frames := 6, cells := 0, slots := 0, locals := 142 } : Room) s m args below meth c H locs 0 0 (MQ below (va_Qi (fun (x : Int32) (_ : Unit) => x = rr) (fun _ t => PA D cy ad 100 21 A M' t) A) args s 0 0 A) (F0 m 83 ls []) := by
  obtain ⟨hx, hb, hml, hown, hts, hr, hlk, hK, hN, hA, hX⟩ := id C
  unfold b_X6_kinds_83 at h
  refine lv_aload_n hx hb dX6_kinds_83 rfl (lv_at hl 0 rfl) ?_
  refine gf_6_2 C hP (iL (by decide)) (by decide) wd_884 dX6_kinds_84 ?_
  refine lv_iload_n hx hb dX6_kinds_87 rfl (lv_at hl 2 rfl) ?_
  refine lv_iload_n hx hb dX6_kinds_88 rfl (lv_at hl 3 rfl) ?_
  refine lv_iconst (v := 1) hx hb dX6_kinds_89 (by decide) ?_
  refine lv_icmp_ne (tgt := 98) hx hb dX6_kinds_90 (by decide) (fun c90 => ?_) (fun c90 => ?_)
  · replace h := it_f c90 h
    refine lv_iload hx hb dX6_kinds_98 (lv_at hl 5 rfl) ?_
    exact w_X6_kinds_100 C hk50 hP hD hS hl h
  · replace h := it_t c90 h
    refine lv_iload hx hb dX6_kinds_93 (lv_at hl 7 rfl) ?_
    refine lv_goto (tgt := 100) hx hb dX6_kinds_95 (by decide) ?_
    exact w_X6_kinds_100 C hk50 hP hD hS hl h
def b_X6_kinds_82 (N : Nat) (x1 : Int32) (x2 : Int32) (x3 : Int32) (k50 : Int32 → Int32 → Int32 → Int32 → Mem → Option (Int32 × Mem)) (x5 : Int32) (x6 : Int32) (x7 : Int32) (x8 : Int32) (t1 : Int32) (t2 : Int32) (M : Mem) : Option (Int32 × Mem) := gd (inb t1 (len 101)) (b_X6_kinds_83 N x1 x2 x3 k50 x5 x6 x7 x8 (sAI M 101 t1.toNatClampNeg t2))
set_option maxHeartbeats 4000000 in
set_option maxRecDepth 100000 in
theorem w_X6_kinds_82 (C : CX p s m args meth c cX6_kinds 9 (some .int) RX6 D cy ad zz 100 21 A) {N : Nat} {M : Mem} {x1 : Int32} {x2 : Int32} {x3 : Int32} {k50 : Int32 → Int32 → Int32 → Int32 → Mem → Option (Int32 × Mem)} {rr : Int32} {M' : Mem} (hk50 : ∀ (x5 : Int32), ∀ (x6 : Int32), ∀ (x7 : Int32), ∀ (x8 : Int32), ∀ (M : Mem), ∀ (H : Heap) (locs : List Loc), va_P D vwCl (pool cy ad 100 21 M) H → va_D A (pool cy ad 100 21 M) → va_S A s.heap H locs → ∀ (ls : Array Slot), lv_has ls 9 [(0, .ref (ad 100)), (1, .int x1), (2, .int x2), (3, .int x3), (5, .int x5), (6, .int x6), (7, .int x7), (8, .int x8)] → k50 x5 x6 x7 x8 M = some (rr, M') → W p l e ({ frames := 6, cells := 0, slots := 0, locals := 142 } : Room) s m args below meth c H locs 0 0 (MQ below (va_Qi (fun (x : Int32) (_ : Unit) => x = rr) (fun _ t => PA D cy ad 100 21 A M' t) A) args s 0 0 A) (F0 m 50 ls [])) {x5 : Int32} {x6 : Int32} {x7 : Int32} {x8 : Int32} {t1 : Int32} {t2 : Int32} {H : Heap} {locs : List Loc} (hP : va_P D vwCl (pool cy ad 100 21 M) H) (hD : va_D A (pool cy ad 100 21 M)) (hS : va_S A s.heap H locs) {ls : Array Slot} (hl : lv_has ls 9 [(0, .ref (ad 100)), (1, .int x1), (2, .int x2), (3, .int x3), (5, .int x5), (6, .int x6), (7, .int x7), (8, .int x8)]) (h : b_X6_kinds_82 N x1 x2 x3 k50 x5 x6 x7 x8 t1 t2 M = some (rr, M')) : W p l e ({ frames := 6, cells := 0, slots := 0, locals := 142 } : Room) s m args below meth c H locs 0 0 (MQ below (va_Qi (fun (x : Int32) (_ : Unit) => x = rr) (fun _ t => PA D cy ad 100 21 A M' t) A) args s 0 0 A) (F0 m 82 ls [.int t2, .int t1, .ref (ad 101)]) := by
  obtain ⟨hx, hb, hml, hown, hts, hr, hlk, hK, hN, hA, hX⟩ := id C
  unfold b_X6_kinds_82 at h
  obtain ⟨gi1, h⟩ := gd_of h
  refine ia_st C hP hD hS (iL (by decide)) (by decide) gi1 dX6_kinds_82 (fun H locs hP hD hS => ?_)
  exact w_X6_kinds_83 C hk50 hP hD hS hl h
def b_X6_kinds_63 (N : Nat) (x1 : Int32) (x2 : Int32) (x3 : Int32) (k50 : Int32 → Int32 → Int32 → Int32 → Mem → Option (Int32 × Mem)) (x5 : Int32) (x6 : Int32) (x7 : Int32) (x8 : Int32) (t0 : Int32) (t1 : Int32) (M : Mem) : Option (Int32 × Mem) := (if t1 ≤ t0 then gd (inb x2 (len 101)) (b_X6_kinds_138 N x1 x2 x3 x6 x7 (sAI M 101 x2.toNatClampNeg x5)) else (if x3 = 0 then b_X6_kinds_82 N x1 x2 x3 k50 x5 x6 x7 x8 x2 x8 M else b_X6_kinds_82 N x1 x2 x3 k50 x5 x6 x7 x8 x2 x5 M))
set_option maxHeartbeats 4000000 in
set_option maxRecDepth 100000 in
theorem w_X6_kinds_63 (C : CX p s m args meth c cX6_kinds 9 (some .int) RX6 D cy ad zz 100 21 A) {N : Nat} {M : Mem} {x1 : Int32} {x2 : Int32} {x3 : Int32} {k50 : Int32 → Int32 → Int32 → Int32 → Mem → Option (Int32 × Mem)} {rr : Int32} {M' : Mem} (hk50 : ∀ (x5 : Int32), ∀ (x6 : Int32), ∀ (x7 : Int32), ∀ (x8 : Int32), ∀ (M : Mem), ∀ (H : Heap) (locs : List Loc), va_P D vwCl (pool cy ad 100 21 M) H → va_D A (pool cy ad 100 21 M) → va_S A s.heap H locs → ∀ (ls : Array Slot), lv_has ls 9 [(0, .ref (ad 100)), (1, .int x1), (2, .int x2), (3, .int x3), (5, .int x5), (6, .int x6), (7, .int x7), (8, .int x8)] → k50 x5 x6 x7 x8 M = some (rr, M') → W p l e ({ frames := 6, cells := 0, slots := 0, locals := 142 } : Room) s m args below meth c H locs 0 0 (MQ below (va_Qi (fun (x : Int32) (_ : Unit) => x = rr) (fun _ t => PA D cy ad 100 21 A M' t) A) args s 0 0 A) (F0 m 50 ls [])) {x5 : Int32} {x6 : Int32} {x7 : Int32} {x8 : Int32} {t0 : Int32} {t1 : Int32} {H : Heap} {locs : List Loc} (hP : va_P D vwCl (pool cy ad 100 21 M) H) (hD : va_D A (pool cy ad 100 21 M)) (hS : va_S A s.heap H locs) {ls : Array Slot} (hl : lv_has ls 9 [(0, .ref (ad 100)), (1, .int x1), (2, .int x2), (3, .int x3), (5, .int x5), (6, .int x6), (7, .int x7), (8, .int x8)]) (h : b_X6_kinds_63 N x1 x2 x3 k50 x5 x6 x7 x8 t0 t1 M = some (rr, M')) : W p l e ({ frames := 6, cells := 0, slots := 0, locals := 142 } : Room) s m args below meth c H locs 0 0 (MQ below (va_Qi (fun (x : Int32) (_ : Unit) => x = rr) (fun _ t => PA D cy ad 100 21 A M' t) A) args s 0 0 A) (F0 m 63 ls [.int t1, .int t0]) := by
  obtain ⟨hx, hb, hml, hown, hts, hr, hlk, hK, hN, hA, hX⟩ := id C
  unfold b_X6_kinds_63 at h
  refine lv_icmp_ge (tgt := 130) hx hb dX6_kinds_63 (by decide) (fun c63 => ?_) (fun c63 => ?_)
  · replace h := it_t c63 h
    refine lv_aload_n hx hb dX6_kinds_130 rfl (lv_at hl 0 rfl) ?_
    refine gf_6_1 C hP (iL (by decide)) (by decide) wd_883 dX6_kinds_131 ?_
    refine lv_iload_n hx hb dX6_kinds_134 rfl (lv_at hl 2 rfl) ?_
    refine lv_iload hx hb dX6_kinds_135 (lv_at hl 4 rfl) ?_
    obtain ⟨gi1, h⟩ := gd_of h
    refine ia_st C hP hD hS (iL (by decide)) (by decide) gi1 dX6_kinds_137 (fun H locs hP hD hS => ?_)
    exact w_X6_kinds_138 C hP hD hS (lv_sub hl [0, 2, 5, 6] rfl) h
  · replace h := it_f c63 h
    refine lv_aload_n hx hb dX6_kinds_66 rfl (lv_at hl 0 rfl) ?_
    refine gf_6_1 C hP (iL (by decide)) (by decide) wd_883 dX6_kinds_67 ?_
    refine lv_iload_n hx hb dX6_kinds_70 rfl (lv_at hl 2 rfl) ?_
    refine lv_iload_n hx hb dX6_kinds_71 rfl (lv_at hl 3 rfl) ?_
    refine lv_if_ne (tgt := 80) hx hb dX6_kinds_72 (by decide) (fun c72 => ?_) (fun c72 => ?_)
    · replace h := it_f c72 h
      refine lv_iload hx hb dX6_kinds_80 (lv_at hl 4 rfl) ?_
      exact w_X6_kinds_82 C hk50 hP hD hS hl h
    · replace h := it_t c72 h
      refine lv_iload hx hb dX6_kinds_75 (lv_at hl 7 rfl) ?_
      refine lv_goto (tgt := 82) hx hb dX6_kinds_77 (by decide) ?_
      exact w_X6_kinds_82 C hk50 hP hD hS hl h
def b_X6_kinds_50 (N : Nat) (x1 : Int32) (x2 : Int32) (x3 : Int32) : Nat → Int32 → Int32 → Int32 → Int32 → Mem → Option (Int32 × Mem)
  | 0, _, _, _, _, _ => none
  | fu + 1, x5, x6, x7, x8, M => (if x3 = 0 then b_X6_kinds_63 N x1 x2 x3 (b_X6_kinds_50 N x1 x2 x3 fu) x5 x6 x7 x8 x8 (6 : Int32) M else b_X6_kinds_63 N x1 x2 x3 (b_X6_kinds_50 N x1 x2 x3 fu) x5 x6 x7 x8 x8 (10 : Int32) M)
set_option maxHeartbeats 4000000 in
set_option maxRecDepth 100000 in
theorem w_X6_kinds_50 (C : CX p s m args meth c cX6_kinds 9 (some .int) RX6 D cy ad zz 100 21 A) {N : Nat} {x1 : Int32} {x2 : Int32} {x3 : Int32} {rr : Int32} {M' : Mem}  : ∀ (fu : Nat), ∀ (x5 : Int32), ∀ (x6 : Int32), ∀ (x7 : Int32), ∀ (x8 : Int32), ∀ (M : Mem), ∀ (H : Heap) (locs : List Loc), va_P D vwCl (pool cy ad 100 21 M) H → va_D A (pool cy ad 100 21 M) → va_S A s.heap H locs → ∀ (ls : Array Slot), lv_has ls 9 [(0, .ref (ad 100)), (1, .int x1), (2, .int x2), (3, .int x3), (5, .int x5), (6, .int x6), (7, .int x7), (8, .int x8)] → b_X6_kinds_50 N x1 x2 x3 fu x5 x6 x7 x8 M = some (rr, M') → W p l e ({ frames := 6, cells := 0, slots := 0, locals := 142 } : Room) s m args below meth c H locs 0 0 (MQ below (va_Qi (fun (x : Int32) (_ : Unit) => x = rr) (fun _ t => PA D cy ad 100 21 A M' t) A) args s 0 0 A) (F0 m 50 ls []) := by
  obtain ⟨hx, hb, hml, hown, hts, hr, hlk, hK, hN, hA, hX⟩ := id C
  intro fu
  induction fu with
  | zero =>
    intro x5 x6 x7 x8 M H locs hP hD hS ls hl h
    exact no_some (show none = some _ from h)
  | succ fu ih =>
    intro x5 x6 x7 x8 M H locs hP hD hS ls hl h
    rw [b_X6_kinds_50] at h
    refine lv_iload hx hb dX6_kinds_50 (lv_at hl 7 rfl) ?_
    refine lv_iload_n hx hb dX6_kinds_52 rfl (lv_at hl 3 rfl) ?_
    refine lv_if_ne (tgt := 61) hx hb dX6_kinds_53 (by decide) (fun c53 => ?_) (fun c53 => ?_)
    · replace h := it_f c53 h
      refine lv_bipush (v := 10) hx hb dX6_kinds_61 (by decide) ?_
      exact w_X6_kinds_63 C ih hP hD hS hl h
    · replace h := it_t c53 h
      refine lv_bipush (v := 6) hx hb dX6_kinds_56 (by decide) ?_
      refine lv_goto (tgt := 63) hx hb dX6_kinds_58 (by decide) ?_
      exact w_X6_kinds_63 C ih hP hD hS hl h
def b_X6_kinds_0 (N : Nat) (x1 : Int32) (x2 : Int32) (x3 : Int32) (M : Mem) : Option (Int32 × Mem) := (f_X6_toldWrong x1 x2 M).bind fun r3 => (if r3 = 0 then (f_X6_in x3 (0 : Int32) (1 : Int32) M).bind fun r19 => (if r19 = true then gd (inb x2 (len 101)) (gd (inb x2 (len 102)) (b_X6_kinds_50 N x1 x2 x3 N (AI M 101 x2.toNatClampNeg) (AI M 102 x2.toNatClampNeg) (0 : Int32) (0 : Int32) M)) else some ((-7 : Int32), M)) else some (r3, M))
set_option maxHeartbeats 4000000 in
set_option maxRecDepth 100000 in
theorem w_X6_kinds_0 (C : CX p s m args meth c cX6_kinds 9 (some .int) RX6 D cy ad zz 100 21 A) {N : Nat} {M : Mem} {x1 : Int32} {x2 : Int32} {x3 : Int32} {rr : Int32} {M' : Mem} {H : Heap} {locs : List Loc} (hP : va_P D vwCl (pool cy ad 100 21 M) H) (hD : va_D A (pool cy ad 100 21 M)) (hS : va_S A s.heap H locs) {ls : Array Slot} (hl : lv_has ls 9 [(0, .ref (ad 100)), (1, .int x1), (2, .int x2), (3, .int x3)]) (h : b_X6_kinds_0 N x1 x2 x3 M = some (rr, M')) : W p l e ({ frames := 6, cells := 0, slots := 0, locals := 142 } : Room) s m args below meth c H locs 0 0 (MQ below (va_Qi (fun (x : Int32) (_ : Unit) => x = rr) (fun _ t => PA D cy ad 100 21 A M' t) A) args s 0 0 A) (F0 m 0 ls []) := by
  obtain ⟨hx, hb, hml, hown, hts, hr, hlk, hK, hN, hA, hX⟩ := id C
  unfold b_X6_kinds_0 at h
  refine lv_aload_n hx hb dX6_kinds_0 rfl (lv_at hl 0 rfl) ?_
  refine lv_iload_n hx hb dX6_kinds_1 rfl (lv_at hl 1 rfl) ?_
  refine lv_iload_n hx hb dX6_kinds_2 rfl (lv_at hl 2 rfl) ?_
  obtain ⟨r3, g3, h⟩ := bd_of h
  refine call_iV (As := [.int x1, .int x2]) (rest := []) C hP hD hS (c_X6_toldWrong g3) (iL (by decide)) ⟨6, _, _, ent_6 (by decide), rfl, rfl⟩ (gV wd_1196 wd_1198 wd_59 wd_75 wd_1199) ev_X6_toldWrong ⟨rfl, rfl⟩ ⟨Nat.le_of_ble_eq_true rfl, Nat.le_of_ble_eq_true rfl⟩ hl.1 rfl (Nat.le_of_ble_eq_true rfl) dX6_kinds_3 (fun H locs hP hD hS => ?_)
  refine lv_istore (lv' := [(4, .int r3), (0, .ref (ad 100)), (1, .int x1), (2, .int x2), (3, .int x3)]) hx hb dX6_kinds_6 hl (by decide) rfl (fun ls hl => ?_)
  refine lv_iload hx hb dX6_kinds_8 (lv_at hl 0 rfl) ?_
  refine lv_if_eq (tgt := 16) hx hb dX6_kinds_10 (by decide) (fun c10 => ?_) (fun c10 => ?_)
  · replace h := it_t c10 h
    refine lv_iload_n hx hb dX6_kinds_16 rfl (lv_at hl 4 rfl) ?_
    refine lv_iconst (v := 0) hx hb dX6_kinds_17 (by decide) ?_
    refine lv_iconst (v := 1) hx hb dX6_kinds_18 (by decide) ?_
    obtain ⟨r19, g19, h⟩ := bd_of h
    refine call_iS (As := [.int x3, .int (0 : Int32), .int (1 : Int32)]) (rest := []) C hP hD hS (c_X6_in g19) (gS wd_843 wd_844 wd_75 wd_845) es_X6_in ⟨rfl, rfl⟩ ⟨Nat.le_of_ble_eq_true rfl, Nat.le_of_ble_eq_true rfl⟩ hl.1 rfl (Nat.le_of_ble_eq_true rfl) dX6_kinds_19 (fun H locs hP hD hS => ?_)
    refine lv_if_ne (tgt := 28) hx hb dX6_kinds_22 (by decide) (fun c22 => ?_) (fun c22 => ?_)
    · replace h := it_t (b2i_1 c22) h
      refine lv_aload_n hx hb dX6_kinds_28 rfl (lv_at hl 1 rfl) ?_
      refine gf_6_1 C hP (iL (by decide)) (by decide) wd_883 dX6_kinds_29 ?_
      refine lv_iload_n hx hb dX6_kinds_32 rfl (lv_at hl 3 rfl) ?_
      obtain ⟨gi1, h⟩ := gd_of h
      refine ia_ld C hP (iL (by decide)) (by decide) gi1 dX6_kinds_33 ?_
      refine lv_istore (lv' := [(5, .int (AI M 101 x2.toNatClampNeg)), (4, .int r3), (0, .ref (ad 100)), (1, .int x1), (2, .int x2), (3, .int x3)]) hx hb dX6_kinds_34 hl (by decide) rfl (fun ls hl => ?_)
      refine lv_aload_n hx hb dX6_kinds_36 rfl (lv_at hl 2 rfl) ?_
      refine gf_6_2 C hP (iL (by decide)) (by decide) wd_884 dX6_kinds_37 ?_
      refine lv_iload_n hx hb dX6_kinds_40 rfl (lv_at hl 4 rfl) ?_
      obtain ⟨gi2, h⟩ := gd_of h
      refine ia_ld C hP (iL (by decide)) (by decide) gi2 dX6_kinds_41 ?_
      refine lv_istore (lv' := [(6, .int (AI M 102 x2.toNatClampNeg)), (5, .int (AI M 101 x2.toNatClampNeg)), (4, .int r3), (0, .ref (ad 100)), (1, .int x1), (2, .int x2), (3, .int x3)]) hx hb dX6_kinds_42 hl (by decide) rfl (fun ls hl => ?_)
      refine lv_iconst (v := 0) hx hb dX6_kinds_44 (by decide) ?_
      refine lv_istore (lv' := [(7, .int (0 : Int32)), (6, .int (AI M 102 x2.toNatClampNeg)), (5, .int (AI M 101 x2.toNatClampNeg)), (4, .int r3), (0, .ref (ad 100)), (1, .int x1), (2, .int x2), (3, .int x3)]) hx hb dX6_kinds_45 hl (by decide) rfl (fun ls hl => ?_)
      refine lv_iconst (v := 0) hx hb dX6_kinds_47 (by decide) ?_
      refine lv_istore (lv' := [(8, .int (0 : Int32)), (7, .int (0 : Int32)), (6, .int (AI M 102 x2.toNatClampNeg)), (5, .int (AI M 101 x2.toNatClampNeg)), (4, .int r3), (0, .ref (ad 100)), (1, .int x1), (2, .int x2), (3, .int x3)]) hx hb dX6_kinds_48 hl (by decide) rfl (fun ls hl => ?_)
      exact w_X6_kinds_50 C N _ _ _ _ _ _ _ hP hD hS _ (lv_sub hl [5, 6, 7, 8, 3, 2, 1, 0] rfl) h
    · replace h := it_f (b2i_n c22) h
      refine lv_bipush (v := -7) hx hb dX6_kinds_25 (by decide) ?_
      exact rt_i (r := (-7 : Int32)) C hP hD hS dX6_kinds_27 (rw_end h)
  · replace h := it_f c10 h
    refine lv_iload hx hb dX6_kinds_13 (lv_at hl 0 rfl) ?_
    exact rt_i (r := r3) C hP hD hS dX6_kinds_15 (rw_end h)
def f_X6_kinds (N : Nat) (x1 : Int32) (x2 : Int32) (x3 : Int32) (M : Mem) : Option (Int32 × Mem) := b_X6_kinds_0 N x1 x2 x3 M
theorem c_X6_kinds {l : Launch} {D : va_G} {cy : Nat → ClassId} {ad : Nat → Nat} {zz : (Nat → Nat) × (Nat → Nat)} {N : Nat} {x1 : Int32} {x2 : Int32} {x3 : Int32} {M : Mem} {rr : Int32} {M' : Mem} (h : f_X6_kinds N x1 x2 x3 M = some (rr, M')) : CTi l D cy ad zz 100 21 yX6_kinds (.code yX6_kinds cX6_kinds 9 (some .int) :: tb) ({ frames := 6, cells := 0, slots := 0, locals := 142 } : Room) [.ref (ad 100), .int x1, .int x2, .int x3] M rr M' := by
  intro sz
  refine CX.of (by decide +kernel) (fun p e s m args below meth c H ls C hP hD hS hl => ?_) (Nat.le_of_ble_eq_true rfl)
  exact w_X6_kinds_0 C hP hD hS hl h
theorem ev_X6_kinds : yX6_kinds.cls = RX6 ∧ yX6_kinds.cls ≠ "java/lang/invoke/MethodHandle" ∧ yX6_kinds.cls ≠ "java/lang/invoke/VarHandle" ∧ (parseMethodDescriptor yX6_kinds.desc).map (fun d => d.parameters.length) = some 3 := by decide +kernel
def b_X6_begins_65 (N : Nat) (x1 : Int32) (x2 : Int32) (k28 : Int32 → Int64 → Int32 → Mem → Option (Int64 × Mem)) (x3 : Int32) (x6 : Int32) (u0 : Int64) (u1 : Int64) (M : Mem) : Option (Int64 × Mem) := k28 x3 (u0 ||| u1) (x6 + (1 : Int32)) M
set_option maxHeartbeats 4000000 in
set_option maxRecDepth 100000 in
theorem w_X6_begins_65 (C : CX p s m args meth c cX6_begins 7 (some .long) RX6 D cy ad zz 100 21 A) {N : Nat} {M : Mem} {x1 : Int32} {x2 : Int32} {k28 : Int32 → Int64 → Int32 → Mem → Option (Int64 × Mem)} {rr : Int64} {M' : Mem} (hk28 : ∀ (x3 : Int32), ∀ (y4 : Int64), ∀ (x6 : Int32), ∀ (M : Mem), ∀ (H : Heap) (locs : List Loc), va_P D vwCl (pool cy ad 100 21 M) H → va_D A (pool cy ad 100 21 M) → va_S A s.heap H locs → ∀ (ls : Array Slot), lv_has ls 7 [(0, .ref (ad 100)), (1, .int x1), (2, .int x2), (3, .int x3), (4, .long y4), (6, .int x6)] → k28 x3 y4 x6 M = some (rr, M') → W p l e ({ frames := 6, cells := 0, slots := 0, locals := 142 } : Room) s m args below meth c H locs 0 0 (MQ below (va_Ql (fun (x : Int64) (_ : Unit) => x = rr) (fun _ t => PA D cy ad 100 21 A M' t) A) args s 0 0 A) (F0 m 28 ls [])) {x3 : Int32} {x6 : Int32} {u0 : Int64} {u1 : Int64} {H : Heap} {locs : List Loc} (hP : va_P D vwCl (pool cy ad 100 21 M) H) (hD : va_D A (pool cy ad 100 21 M)) (hS : va_S A s.heap H locs) {ls : Array Slot} (hl : lv_has ls 7 [(0, .ref (ad 100)), (1, .int x1), (2, .int x2), (3, .int x3), (6, .int x6)]) (h : b_X6_begins_65 N x1 x2 k28 x3 x6 u0 u1 M = some (rr, M')) : W p l e ({ frames := 6, cells := 0, slots := 0, locals := 142 } : Room) s m args below meth c H locs 0 0 (MQ below (va_Ql (fun (x : Int64) (_ : Unit) => x = rr) (fun _ t => PA D cy ad 100 21 A M' t) A) args s 0 0 A) (F0 m 65 ls [.long u1, .long u0]) := by
  obtain ⟨hx, hb, hml, hown, hts, hr, hlk, hK, hN, hA, hX⟩ := id C
  unfold b_X6_begins_65 at h
  refine lv_lor hx hb dX6_begins_65 ?_
  refine lv_lstore (lv' := [(4, .long (u0 ||| u1)), (0, .ref (ad 100)), (1, .int x1), (2, .int x2), (3, .int x3), (6, .int x6)]) hx hb dX6_begins_66 hl (by decide) rfl (fun ls hl => ?_)
  refine lv_iinc (v := (x6 + (1 : Int32))) (lv' := [(6, .int (x6 + (1 : Int32))), (4, .long (u0 ||| u1)), (0, .ref (ad 100)), (1, .int x1), (2, .int x2), (3, .int x3)]) hx hb dX6_begins_68 hl (k := 5) rfl rfl (by decide) rfl (fun ls hl => ?_)
  refine lv_goto (tgt := 28) hx hb dX6_begins_71 (by decide) ?_
  exact hk28 _ _ _ _ _ _ hP hD hS _ (lv_sub hl [2, 3, 4, 5, 1, 0] rfl) h
def b_X6_begins_45 (N : Nat) (x1 : Int32) (x2 : Int32) (k28 : Int32 → Int64 → Int32 → Mem → Option (Int64 × Mem)) (x3 : Int32) (y4 : Int64) (x6 : Int32) (M : Mem) : Option (Int64 × Mem) := bd2 (f_X6_unlike N x1 x2 M) fun r50 M50 => (if r50 = (-1 : Int32) then b_X6_begins_65 N x1 x2 k28 x3 x6 y4 ((1 : Int64) <<< (x6.toInt64 &&& 63)) M50 else b_X6_begins_65 N x1 x2 k28 x3 x6 y4 (0 : Int64) M50)
set_option maxHeartbeats 4000000 in
set_option maxRecDepth 100000 in
theorem w_X6_begins_45 (C : CX p s m args meth c cX6_begins 7 (some .long) RX6 D cy ad zz 100 21 A) {N : Nat} {M : Mem} {x1 : Int32} {x2 : Int32} {k28 : Int32 → Int64 → Int32 → Mem → Option (Int64 × Mem)} {rr : Int64} {M' : Mem} (hk28 : ∀ (x3 : Int32), ∀ (y4 : Int64), ∀ (x6 : Int32), ∀ (M : Mem), ∀ (H : Heap) (locs : List Loc), va_P D vwCl (pool cy ad 100 21 M) H → va_D A (pool cy ad 100 21 M) → va_S A s.heap H locs → ∀ (ls : Array Slot), lv_has ls 7 [(0, .ref (ad 100)), (1, .int x1), (2, .int x2), (3, .int x3), (4, .long y4), (6, .int x6)] → k28 x3 y4 x6 M = some (rr, M') → W p l e ({ frames := 6, cells := 0, slots := 0, locals := 142 } : Room) s m args below meth c H locs 0 0 (MQ below (va_Ql (fun (x : Int64) (_ : Unit) => x = rr) (fun _ t => PA D cy ad 100 21 A M' t) A) args s 0 0 A) (F0 m 28 ls [])) {x3 : Int32} {y4 : Int64} {x6 : Int32} {H : Heap} {locs : List Loc} (hP : va_P D vwCl (pool cy ad 100 21 M) H) (hD : va_D A (pool cy ad 100 21 M)) (hS : va_S A s.heap H locs) {ls : Array Slot} (hl : lv_has ls 7 [(0, .ref (ad 100)), (1, .int x1), (2, .int x2), (3, .int x3), (4, .long y4), (6, .int x6)]) (h : b_X6_begins_45 N x1 x2 k28 x3 y4 x6 M = some (rr, M')) : W p l e ({ frames := 6, cells := 0, slots := 0, locals := 142 } : Room) s m args below meth c H locs 0 0 (MQ below (va_Ql (fun (x : Int64) (_ : Unit) => x = rr) (fun _ t => PA D cy ad 100 21 A M' t) A) args s 0 0 A) (F0 m 45 ls []) := by
  obtain ⟨hx, hb, hml, hown, hts, hr, hlk, hK, hN, hA, hX⟩ := id C
  unfold b_X6_begins_45 at h
  refine lv_lload hx hb dX6_begins_45 (lv_at hl 4 rfl) ?_
  refine lv_aload_n hx hb dX6_begins_47 rfl (lv_at hl 0 rfl) ?_
  refine lv_iload_n hx hb dX6_begins_48 rfl (lv_at hl 1 rfl) ?_
  refine lv_iload_n hx hb dX6_begins_49 rfl (lv_at hl 2 rfl) ?_
  obtain ⟨r50, M50, g50, h⟩ := bd2_of h
  refine call_iV (As := [.int x1, .int x2]) (rest := [.long y4]) C hP hD hS (c_X6_unlike g50) (iL (by decide)) ⟨6, _, _, ent_6 (by decide), rfl, rfl⟩ (gV wd_1204 wd_1206 wd_61 wd_75 wd_1207) ev_X6_unlike ⟨rfl, rfl⟩ ⟨Nat.le_of_ble_eq_true rfl, Nat.le_of_ble_eq_true rfl⟩ hl.1 rfl (Nat.le_of_ble_eq_true rfl) dX6_begins_50 (fun H locs hP hD hS => ?_)
  refine lv_iconst (v := -1) hx hb dX6_begins_53 (by decide) ?_
  refine lv_icmp_ne (tgt := 64) hx hb dX6_begins_54 (by decide) (fun c54 => ?_) (fun c54 => ?_)
  · replace h := it_f c54 h
    refine lv_lconst (v := 0) hx hb dX6_begins_64 (by decide) ?_
    exact w_X6_begins_65 C hk28 hP hD hS (lv_sub hl [0, 1, 2, 3, 5] rfl) h
  · replace h := it_t c54 h
    refine lv_lconst (v := 1) hx hb dX6_begins_57 (by decide) ?_
    refine lv_iload hx hb dX6_begins_58 (lv_at hl 5 rfl) ?_
    refine lv_lshl (v := ((1 : Int64) <<< (x6.toInt64 &&& 63))) hx hb dX6_begins_60 rfl ?_
    refine lv_goto (tgt := 65) hx hb dX6_begins_61 (by decide) ?_
    exact w_X6_begins_65 C hk28 hP hD hS (lv_sub hl [0, 1, 2, 3, 5] rfl) h
def b_X6_begins_28 (N : Nat) (x1 : Int32) (x2 : Int32) : Nat → Int32 → Int64 → Int32 → Mem → Option (Int64 × Mem)
  | 0, _, _, _, _ => none
  | fu + 1, x3, y4, x6, M => (if (64 : Int32) ≤ x6 then gd (inb ((5 : Int32) * x2) (len 103)) (some (y4, (sAI M 103 ((5 : Int32) * x2).toNatClampNeg x3))) else gd (inb ((5 : Int32) * x2) (len 103)) (b_X6_begins_45 N x1 x2 (b_X6_begins_28 N x1 x2 fu) x3 y4 x6 (sAI M 103 ((5 : Int32) * x2).toNatClampNeg x6)))
set_option maxHeartbeats 4000000 in
set_option maxRecDepth 100000 in
theorem w_X6_begins_28 (C : CX p s m args meth c cX6_begins 7 (some .long) RX6 D cy ad zz 100 21 A) {N : Nat} {x1 : Int32} {x2 : Int32} {rr : Int64} {M' : Mem}  : ∀ (fu : Nat), ∀ (x3 : Int32), ∀ (y4 : Int64), ∀ (x6 : Int32), ∀ (M : Mem), ∀ (H : Heap) (locs : List Loc), va_P D vwCl (pool cy ad 100 21 M) H → va_D A (pool cy ad 100 21 M) → va_S A s.heap H locs → ∀ (ls : Array Slot), lv_has ls 7 [(0, .ref (ad 100)), (1, .int x1), (2, .int x2), (3, .int x3), (4, .long y4), (6, .int x6)] → b_X6_begins_28 N x1 x2 fu x3 y4 x6 M = some (rr, M') → W p l e ({ frames := 6, cells := 0, slots := 0, locals := 142 } : Room) s m args below meth c H locs 0 0 (MQ below (va_Ql (fun (x : Int64) (_ : Unit) => x = rr) (fun _ t => PA D cy ad 100 21 A M' t) A) args s 0 0 A) (F0 m 28 ls []) := by
  obtain ⟨hx, hb, hml, hown, hts, hr, hlk, hK, hN, hA, hX⟩ := id C
  intro fu
  induction fu with
  | zero =>
    intro x3 y4 x6 M H locs hP hD hS ls hl h
    exact no_some (show none = some _ from h)
  | succ fu ih =>
    intro x3 y4 x6 M H locs hP hD hS ls hl h
    rw [b_X6_begins_28] at h
    refine lv_iload hx hb dX6_begins_28 (lv_at hl 5 rfl) ?_
    refine lv_bipush (v := 64) hx hb dX6_begins_30 (by decide) ?_
    refine lv_icmp_ge (tgt := 74) hx hb dX6_begins_32 (by decide) (fun c32 => ?_) (fun c32 => ?_)
    · replace h := it_t c32 h
      refine lv_aload_n hx hb dX6_begins_74 rfl (lv_at hl 0 rfl) ?_
      refine gf_6_3 C hP (iL (by decide)) (by decide) wd_885 dX6_begins_75 ?_
      refine lv_iconst (v := 5) hx hb dX6_begins_78 (by decide) ?_
      refine lv_iload_n hx hb dX6_begins_79 rfl (lv_at hl 2 rfl) ?_
      refine lv_imul hx hb dX6_begins_80 ?_
      refine lv_iload_n hx hb dX6_begins_81 rfl (lv_at hl 3 rfl) ?_
      obtain ⟨gi1, h⟩ := gd_of h
      refine ia_st C hP hD hS (iL (by decide)) (by decide) gi1 dX6_begins_82 (fun H locs hP hD hS => ?_)
      refine lv_lload hx hb dX6_begins_83 (lv_at hl 4 rfl) ?_
      exact rt_l (r := y4) C hP hD hS dX6_begins_85 (rw_end h)
    · replace h := it_f c32 h
      refine lv_aload_n hx hb dX6_begins_35 rfl (lv_at hl 0 rfl) ?_
      refine gf_6_3 C hP (iL (by decide)) (by decide) wd_885 dX6_begins_36 ?_
      refine lv_iconst (v := 5) hx hb dX6_begins_39 (by decide) ?_
      refine lv_iload_n hx hb dX6_begins_40 rfl (lv_at hl 2 rfl) ?_
      refine lv_imul hx hb dX6_begins_41 ?_
      refine lv_iload hx hb dX6_begins_42 (lv_at hl 5 rfl) ?_
      obtain ⟨gi2, h⟩ := gd_of h
      refine ia_st C hP hD hS (iL (by decide)) (by decide) gi2 dX6_begins_44 (fun H locs hP hD hS => ?_)
      exact w_X6_begins_45 C ih hP hD hS hl h
def b_X6_begins_0 (N : Nat) (x1 : Int32) (x2 : Int32) (M : Mem) : Option (Int64 × Mem) := (f_X6_toldWrong x1 x2 M).bind fun r3 => (if r3 = 0 then gd (inb ((5 : Int32) * x2) (len 103)) (b_X6_begins_28 N x1 x2 N (AI M 103 ((5 : Int32) * x2).toNatClampNeg) (0 : Int64) (0 : Int32) M) else some ((-4611686018427387904 : Int64), M))
set_option maxHeartbeats 4000000 in
set_option maxRecDepth 100000 in
theorem w_X6_begins_0 (C : CX p s m args meth c cX6_begins 7 (some .long) RX6 D cy ad zz 100 21 A) {N : Nat} {M : Mem} {x1 : Int32} {x2 : Int32} {rr : Int64} {M' : Mem} {H : Heap} {locs : List Loc} (hP : va_P D vwCl (pool cy ad 100 21 M) H) (hD : va_D A (pool cy ad 100 21 M)) (hS : va_S A s.heap H locs) {ls : Array Slot} (hl : lv_has ls 7 [(0, .ref (ad 100)), (1, .int x1), (2, .int x2)]) (h : b_X6_begins_0 N x1 x2 M = some (rr, M')) : W p l e ({ frames := 6, cells := 0, slots := 0, locals := 142 } : Room) s m args below meth c H locs 0 0 (MQ below (va_Ql (fun (x : Int64) (_ : Unit) => x = rr) (fun _ t => PA D cy ad 100 21 A M' t) A) args s 0 0 A) (F0 m 0 ls []) := by
  obtain ⟨hx, hb, hml, hown, hts, hr, hlk, hK, hN, hA, hX⟩ := id C
  unfold b_X6_begins_0 at h
  refine lv_aload_n hx hb dX6_begins_0 rfl (lv_at hl 0 rfl) ?_
  refine lv_iload_n hx hb dX6_begins_1 rfl (lv_at hl 1 rfl) ?_
  refine lv_iload_n hx hb dX6_begins_2 rfl (lv_at hl 2 rfl) ?_
  obtain ⟨r3, g3, h⟩ := bd_of h
  refine call_iV (As := [.int x1, .int x2]) (rest := []) C hP hD hS (c_X6_toldWrong g3) (iL (by decide)) ⟨6, _, _, ent_6 (by decide), rfl, rfl⟩ (gV wd_1196 wd_1198 wd_59 wd_75 wd_1199) ev_X6_toldWrong ⟨rfl, rfl⟩ ⟨Nat.le_of_ble_eq_true rfl, Nat.le_of_ble_eq_true rfl⟩ hl.1 rfl (Nat.le_of_ble_eq_true rfl) dX6_begins_3 (fun H locs hP hD hS => ?_)
  refine lv_if_eq (tgt := 13) hx hb dX6_begins_6 (by decide) (fun c6 => ?_) (fun c6 => ?_)
  · replace h := it_t c6 h
    refine lv_aload_n hx hb dX6_begins_13 rfl (lv_at hl 0 rfl) ?_
    refine gf_6_3 C hP (iL (by decide)) (by decide) wd_885 dX6_begins_14 ?_
    refine lv_iconst (v := 5) hx hb dX6_begins_17 (by decide) ?_
    refine lv_iload_n hx hb dX6_begins_18 rfl (lv_at hl 2 rfl) ?_
    refine lv_imul hx hb dX6_begins_19 ?_
    obtain ⟨gi1, h⟩ := gd_of h
    refine ia_ld C hP (iL (by decide)) (by decide) gi1 dX6_begins_20 ?_
    refine lv_istore_n (lv' := [(3, .int (AI M 103 ((5 : Int32) * x2).toNatClampNeg)), (0, .ref (ad 100)), (1, .int x1), (2, .int x2)]) hx hb dX6_begins_21 rfl hl (by decide) rfl (fun ls hl => ?_)
    refine lv_lconst (v := 0) hx hb dX6_begins_22 (by decide) ?_
    refine lv_lstore (lv' := [(4, .long (0 : Int64)), (3, .int (AI M 103 ((5 : Int32) * x2).toNatClampNeg)), (0, .ref (ad 100)), (1, .int x1), (2, .int x2)]) hx hb dX6_begins_23 hl (by decide) rfl (fun ls hl => ?_)
    refine lv_iconst (v := 0) hx hb dX6_begins_25 (by decide) ?_
    refine lv_istore (lv' := [(6, .int (0 : Int32)), (4, .long (0 : Int64)), (3, .int (AI M 103 ((5 : Int32) * x2).toNatClampNeg)), (0, .ref (ad 100)), (1, .int x1), (2, .int x2)]) hx hb dX6_begins_26 hl (by decide) rfl (fun ls hl => ?_)
    exact w_X6_begins_28 C N _ _ _ _ _ _ hP hD hS _ (lv_sub hl [3, 4, 5, 2, 1, 0] rfl) h
  · replace h := it_f c6 h
    refine lv_ldc2 hx hb hown (hts _ wd_1136) dX6_begins_9 ?_
    exact rt_l (r := (-4611686018427387904 : Int64)) C hP hD hS dX6_begins_12 (rw_end h)
def f_X6_begins (N : Nat) (x1 : Int32) (x2 : Int32) (M : Mem) : Option (Int64 × Mem) := b_X6_begins_0 N x1 x2 M
theorem c_X6_begins {l : Launch} {D : va_G} {cy : Nat → ClassId} {ad : Nat → Nat} {zz : (Nat → Nat) × (Nat → Nat)} {N : Nat} {x1 : Int32} {x2 : Int32} {M : Mem} {rr : Int64} {M' : Mem} (h : f_X6_begins N x1 x2 M = some (rr, M')) : CTl l D cy ad zz 100 21 yX6_begins (.code yX6_begins cX6_begins 7 (some .long) :: tb) ({ frames := 6, cells := 0, slots := 0, locals := 142 } : Room) [.ref (ad 100), .int x1, .int x2] M rr M' := by
  intro sz
  refine CX.of (by decide +kernel) (fun p e s m args below meth c H ls C hP hD hS hl => ?_) (Nat.le_of_ble_eq_true rfl)
  exact w_X6_begins_0 C hP hD hS hl h
theorem ev_X6_begins : yX6_begins.cls = RX6 ∧ yX6_begins.cls ≠ "java/lang/invoke/MethodHandle" ∧ yX6_begins.cls ≠ "java/lang/invoke/VarHandle" ∧ (parseMethodDescriptor yX6_begins.desc).map (fun d => d.parameters.length) = some 2 := by decide +kernel
def b_X6_ways_98 (N : Nat) (x1 : Int32) (x2 : Int32) (x3 : Int32) (k46 : Int32 → Int32 → Int32 → Mem → Option (Int32 × Mem)) (x5 : Int32) (x7 : Int32) (t0 : Int32) (t1 : Int32) (M : Mem) : Option (Int32 × Mem) := k46 x5 (t0 ||| t1) (x7 + (1 : Int32)) M
set_option maxHeartbeats 4000000 in
set_option maxRecDepth 100000 in
theorem w_X6_ways_98 (C : CX p s m args meth c cX6_ways 8 (some .int) RX6 D cy ad zz 100 21 A) {N : Nat} {M : Mem} {x1 : Int32} {x2 : Int32} {x3 : Int32} {k46 : Int32 → Int32 → Int32 → Mem → Option (Int32 × Mem)} {rr : Int32} {M' : Mem} (hk46 : ∀ (x5 : Int32), ∀ (x6 : Int32), ∀ (x7 : Int32), ∀ (M : Mem), ∀ (H : Heap) (locs : List Loc), va_P D vwCl (pool cy ad 100 21 M) H → va_D A (pool cy ad 100 21 M) → va_S A s.heap H locs → ∀ (ls : Array Slot), lv_has ls 8 [(0, .ref (ad 100)), (1, .int x1), (2, .int x2), (3, .int x3), (5, .int x5), (6, .int x6), (7, .int x7)] → k46 x5 x6 x7 M = some (rr, M') → W p l e ({ frames := 6, cells := 0, slots := 0, locals := 142 } : Room) s m args below meth c H locs 0 0 (MQ below (va_Qi (fun (x : Int32) (_ : Unit) => x = rr) (fun _ t => PA D cy ad 100 21 A M' t) A) args s 0 0 A) (F0 m 46 ls [])) {x5 : Int32} {x7 : Int32} {t0 : Int32} {t1 : Int32} {H : Heap} {locs : List Loc} (hP : va_P D vwCl (pool cy ad 100 21 M) H) (hD : va_D A (pool cy ad 100 21 M)) (hS : va_S A s.heap H locs) {ls : Array Slot} (hl : lv_has ls 8 [(0, .ref (ad 100)), (1, .int x1), (2, .int x2), (3, .int x3), (5, .int x5), (7, .int x7)]) (h : b_X6_ways_98 N x1 x2 x3 k46 x5 x7 t0 t1 M = some (rr, M')) : W p l e ({ frames := 6, cells := 0, slots := 0, locals := 142 } : Room) s m args below meth c H locs 0 0 (MQ below (va_Qi (fun (x : Int32) (_ : Unit) => x = rr) (fun _ t => PA D cy ad 100 21 A M' t) A) args s 0 0 A) (F0 m 98 ls [.int t1, .int t0]) := by
  obtain ⟨hx, hb, hml, hown, hts, hr, hlk, hK, hN, hA, hX⟩ := id C
  unfold b_X6_ways_98 at h
  refine lv_ior hx hb dX6_ways_98 ?_
  refine lv_istore (lv' := [(6, .int (t0 ||| t1)), (0, .ref (ad 100)), (1, .int x1), (2, .int x2), (3, .int x3), (5, .int x5), (7, .int x7)]) hx hb dX6_ways_99 hl (by decide) rfl (fun ls hl => ?_)
  refine lv_iinc (v := (x7 + (1 : Int32))) (lv' := [(7, .int (x7 + (1 : Int32))), (6, .int (t0 ||| t1)), (0, .ref (ad 100)), (1, .int x1), (2, .int x2), (3, .int x3), (5, .int x5)]) hx hb dX6_ways_101 hl (k := 6) rfl rfl (by decide) rfl (fun ls hl => ?_)
  refine lv_goto (tgt := 46) hx hb dX6_ways_104 (by decide) ?_
  exact hk46 _ _ _ _ _ _ hP hD hS _ (lv_sub hl [2, 3, 4, 5, 6, 1, 0] rfl) h
def b_X6_ways_78 (N : Nat) (x1 : Int32) (x2 : Int32) (x3 : Int32) (k46 : Int32 → Int32 → Int32 → Mem → Option (Int32 × Mem)) (x5 : Int32) (x6 : Int32) (x7 : Int32) (M : Mem) : Option (Int32 × Mem) := bd2 (f_X6_unlike N x1 x2 M) fun r83 M83 => (if r83 = (-1 : Int32) then b_X6_ways_98 N x1 x2 x3 k46 x5 x7 x6 ((1 : Int32) <<< (x7 &&& 31)) M83 else b_X6_ways_98 N x1 x2 x3 k46 x5 x7 x6 (0 : Int32) M83)
set_option maxHeartbeats 4000000 in
set_option maxRecDepth 100000 in
theorem w_X6_ways_78 (C : CX p s m args meth c cX6_ways 8 (some .int) RX6 D cy ad zz 100 21 A) {N : Nat} {M : Mem} {x1 : Int32} {x2 : Int32} {x3 : Int32} {k46 : Int32 → Int32 → Int32 → Mem → Option (Int32 × Mem)} {rr : Int32} {M' : Mem} (hk46 : ∀ (x5 : Int32), ∀ (x6 : Int32), ∀ (x7 : Int32), ∀ (M : Mem), ∀ (H : Heap) (locs : List Loc), va_P D vwCl (pool cy ad 100 21 M) H → va_D A (pool cy ad 100 21 M) → va_S A s.heap H locs → ∀ (ls : Array Slot), lv_has ls 8 [(0, .ref (ad 100)), (1, .int x1), (2, .int x2), (3, .int x3), (5, .int x5), (6, .int x6), (7, .int x7)] → k46 x5 x6 x7 M = some (rr, M') → W p l e ({ frames := 6, cells := 0, slots := 0, locals := 142 } : Room) s m args below meth c H locs 0 0 (MQ below (va_Qi (fun (x : Int32) (_ : Unit) => x = rr) (fun _ t => PA D cy ad 100 21 A M' t) A) args s 0 0 A) (F0 m 46 ls [])) {x5 : Int32} {x6 : Int32} {x7 : Int32} {H : Heap} {locs : List Loc} (hP : va_P D vwCl (pool cy ad 100 21 M) H) (hD : va_D A (pool cy ad 100 21 M)) (hS : va_S A s.heap H locs) {ls : Array Slot} (hl : lv_has ls 8 [(0, .ref (ad 100)), (1, .int x1), (2, .int x2), (3, .int x3), (5, .int x5), (6, .int x6), (7, .int x7)]) (h : b_X6_ways_78 N x1 x2 x3 k46 x5 x6 x7 M = some (rr, M')) : W p l e ({ frames := 6, cells := 0, slots := 0, locals := 142 } : Room) s m args below meth c H locs 0 0 (MQ below (va_Qi (fun (x : Int32) (_ : Unit) => x = rr) (fun _ t => PA D cy ad 100 21 A M' t) A) args s 0 0 A) (F0 m 78 ls []) := by
  obtain ⟨hx, hb, hml, hown, hts, hr, hlk, hK, hN, hA, hX⟩ := id C
  unfold b_X6_ways_78 at h
  refine lv_iload hx hb dX6_ways_78 (lv_at hl 5 rfl) ?_
  refine lv_aload_n hx hb dX6_ways_80 rfl (lv_at hl 0 rfl) ?_
  refine lv_iload_n hx hb dX6_ways_81 rfl (lv_at hl 1 rfl) ?_
  refine lv_iload_n hx hb dX6_ways_82 rfl (lv_at hl 2 rfl) ?_
  obtain ⟨r83, M83, g83, h⟩ := bd2_of h
  refine call_iV (As := [.int x1, .int x2]) (rest := [.int x6]) C hP hD hS (c_X6_unlike g83) (iL (by decide)) ⟨6, _, _, ent_6 (by decide), rfl, rfl⟩ (gV wd_1204 wd_1206 wd_61 wd_75 wd_1207) ev_X6_unlike ⟨rfl, rfl⟩ ⟨Nat.le_of_ble_eq_true rfl, Nat.le_of_ble_eq_true rfl⟩ hl.1 rfl (Nat.le_of_ble_eq_true rfl) dX6_ways_83 (fun H locs hP hD hS => ?_)
  refine lv_iconst (v := -1) hx hb dX6_ways_86 (by decide) ?_
  refine lv_icmp_ne (tgt := 97) hx hb dX6_ways_87 (by decide) (fun c87 => ?_) (fun c87 => ?_)
  · replace h := it_f c87 h
    refine lv_iconst (v := 0) hx hb dX6_ways_97 (by decide) ?_
    exact w_X6_ways_98 C hk46 hP hD hS (lv_sub hl [0, 1, 2, 3, 4, 6] rfl) h
  · replace h := it_t c87 h
    refine lv_iconst (v := 1) hx hb dX6_ways_90 (by decide) ?_
    refine lv_iload hx hb dX6_ways_91 (lv_at hl 6 rfl) ?_
    refine lv_ishl hx hb dX6_ways_93 ?_
    refine lv_goto (tgt := 98) hx hb dX6_ways_94 (by decide) ?_
    exact w_X6_ways_98 C hk46 hP hD hS (lv_sub hl [0, 1, 2, 3, 4, 6] rfl) h
def b_X6_ways_63 (N : Nat) (x1 : Int32) (x2 : Int32) (x3 : Int32) (k46 : Int32 → Int32 → Int32 → Mem → Option (Int32 × Mem)) (x5 : Int32) (x6 : Int32) (x7 : Int32) (t0 : Int32) (t1 : Int32) (M : Mem) : Option (Int32 × Mem) := (if t1 ≤ t0 then gd (inb (((5 : Int32) * x2) + x3) (len 103)) (some (x6, (sAI M 103 (((5 : Int32) * x2) + x3).toNatClampNeg x5))) else gd (inb (((5 : Int32) * x2) + x3) (len 103)) (b_X6_ways_78 N x1 x2 x3 k46 x5 x6 x7 (sAI M 103 (((5 : Int32) * x2) + x3).toNatClampNeg x7)))
set_option maxHeartbeats 4000000 in
set_option maxRecDepth 100000 in
theorem w_X6_ways_63 (C : CX p s m args meth c cX6_ways 8 (some .int) RX6 D cy ad zz 100 21 A) {N : Nat} {M : Mem} {x1 : Int32} {x2 : Int32} {x3 : Int32} {k46 : Int32 → Int32 → Int32 → Mem → Option (Int32 × Mem)} {rr : Int32} {M' : Mem} (hk46 : ∀ (x5 : Int32), ∀ (x6 : Int32), ∀ (x7 : Int32), ∀ (M : Mem), ∀ (H : Heap) (locs : List Loc), va_P D vwCl (pool cy ad 100 21 M) H → va_D A (pool cy ad 100 21 M) → va_S A s.heap H locs → ∀ (ls : Array Slot), lv_has ls 8 [(0, .ref (ad 100)), (1, .int x1), (2, .int x2), (3, .int x3), (5, .int x5), (6, .int x6), (7, .int x7)] → k46 x5 x6 x7 M = some (rr, M') → W p l e ({ frames := 6, cells := 0, slots := 0, locals := 142 } : Room) s m args below meth c H locs 0 0 (MQ below (va_Qi (fun (x : Int32) (_ : Unit) => x = rr) (fun _ t => PA D cy ad 100 21 A M' t) A) args s 0 0 A) (F0 m 46 ls [])) {x5 : Int32} {x6 : Int32} {x7 : Int32} {t0 : Int32} {t1 : Int32} {H : Heap} {locs : List Loc} (hP : va_P D vwCl (pool cy ad 100 21 M) H) (hD : va_D A (pool cy ad 100 21 M)) (hS : va_S A s.heap H locs) {ls : Array Slot} (hl : lv_has ls 8 [(0, .ref (ad 100)), (1, .int x1), (2, .int x2), (3, .int x3), (5, .int x5), (6, .int x6), (7, .int x7)]) (h : b_X6_ways_63 N x1 x2 x3 k46 x5 x6 x7 t0 t1 M = some (rr, M')) : W p l e ({ frames := 6, cells := 0, slots := 0, locals := 142 } : Room) s m args below meth c H locs 0 0 (MQ below (va_Qi (fun (x : Int32) (_ : Unit) => x = rr) (fun _ t => PA D cy ad 100 21 A M' t) A) args s 0 0 A) (F0 m 63 ls [.int t1, .int t0]) := by
  obtain ⟨hx, hb, hml, hown, hts, hr, hlk, hK, hN, hA, hX⟩ := id C
  unfold b_X6_ways_63 at h
  refine lv_icmp_ge (tgt := 107) hx hb dX6_ways_63 (by decide) (fun c63 => ?_) (fun c63 => ?_)
  · replace h := it_t c63 h
    refine lv_aload_n hx hb dX6_ways_107 rfl (lv_at hl 0 rfl) ?_
    refine gf_6_3 C hP (iL (by decide)) (by decide) wd_885 dX6_ways_108 ?_
    refine lv_iconst (v := 5) hx hb dX6_ways_111 (by decide) ?_
    refine lv_iload_n hx hb dX6_ways_112 rfl (lv_at hl 2 rfl) ?_
    refine lv_imul hx hb dX6_ways_113 ?_
    refine lv_iload_n hx hb dX6_ways_114 rfl (lv_at hl 3 rfl) ?_
    refine lv_iadd hx hb dX6_ways_115 ?_
    refine lv_iload hx hb dX6_ways_116 (lv_at hl 4 rfl) ?_
    obtain ⟨gi1, h⟩ := gd_of h
    refine ia_st C hP hD hS (iL (by decide)) (by decide) gi1 dX6_ways_118 (fun H locs hP hD hS => ?_)
    refine lv_iload hx hb dX6_ways_119 (lv_at hl 5 rfl) ?_
    exact rt_i (r := x6) C hP hD hS dX6_ways_121 (rw_end h)
  · replace h := it_f c63 h
    refine lv_aload_n hx hb dX6_ways_66 rfl (lv_at hl 0 rfl) ?_
    refine gf_6_3 C hP (iL (by decide)) (by decide) wd_885 dX6_ways_67 ?_
    refine lv_iconst (v := 5) hx hb dX6_ways_70 (by decide) ?_
    refine lv_iload_n hx hb dX6_ways_71 rfl (lv_at hl 2 rfl) ?_
    refine lv_imul hx hb dX6_ways_72 ?_
    refine lv_iload_n hx hb dX6_ways_73 rfl (lv_at hl 3 rfl) ?_
    refine lv_iadd hx hb dX6_ways_74 ?_
    refine lv_iload hx hb dX6_ways_75 (lv_at hl 6 rfl) ?_
    obtain ⟨gi2, h⟩ := gd_of h
    refine ia_st C hP hD hS (iL (by decide)) (by decide) gi2 dX6_ways_77 (fun H locs hP hD hS => ?_)
    exact w_X6_ways_78 C hk46 hP hD hS hl h
def b_X6_ways_46 (N : Nat) (x1 : Int32) (x2 : Int32) (x3 : Int32) : Nat → Int32 → Int32 → Int32 → Mem → Option (Int32 × Mem)
  | 0, _, _, _, _ => none
  | fu + 1, x5, x6, x7, M => (if x3 = (1 : Int32) then b_X6_ways_63 N x1 x2 x3 (b_X6_ways_46 N x1 x2 x3 fu) x5 x6 x7 x7 (4 : Int32) M else gd (inb x2 (len 105)) (b_X6_ways_63 N x1 x2 x3 (b_X6_ways_46 N x1 x2 x3 fu) x5 x6 x7 x7 (AI M 105 x2.toNatClampNeg) M))
set_option maxHeartbeats 4000000 in
set_option maxRecDepth 100000 in
theorem w_X6_ways_46 (C : CX p s m args meth c cX6_ways 8 (some .int) RX6 D cy ad zz 100 21 A) {N : Nat} {x1 : Int32} {x2 : Int32} {x3 : Int32} {rr : Int32} {M' : Mem}  : ∀ (fu : Nat), ∀ (x5 : Int32), ∀ (x6 : Int32), ∀ (x7 : Int32), ∀ (M : Mem), ∀ (H : Heap) (locs : List Loc), va_P D vwCl (pool cy ad 100 21 M) H → va_D A (pool cy ad 100 21 M) → va_S A s.heap H locs → ∀ (ls : Array Slot), lv_has ls 8 [(0, .ref (ad 100)), (1, .int x1), (2, .int x2), (3, .int x3), (5, .int x5), (6, .int x6), (7, .int x7)] → b_X6_ways_46 N x1 x2 x3 fu x5 x6 x7 M = some (rr, M') → W p l e ({ frames := 6, cells := 0, slots := 0, locals := 142 } : Room) s m args below meth c H locs 0 0 (MQ below (va_Qi (fun (x : Int32) (_ : Unit) => x = rr) (fun _ t => PA D cy ad 100 21 A M' t) A) args s 0 0 A) (F0 m 46 ls []) := by
  obtain ⟨hx, hb, hml, hown, hts, hr, hlk, hK, hN, hA, hX⟩ := id C
  intro fu
  induction fu with
  | zero =>
    intro x5 x6 x7 M H locs hP hD hS ls hl h
    exact no_some (show none = some _ from h)
  | succ fu ih =>
    intro x5 x6 x7 M H locs hP hD hS ls hl h
    rw [b_X6_ways_46] at h
    refine lv_iload hx hb dX6_ways_46 (lv_at hl 6 rfl) ?_
    refine lv_iload_n hx hb dX6_ways_48 rfl (lv_at hl 3 rfl) ?_
    refine lv_iconst (v := 1) hx hb dX6_ways_49 (by decide) ?_
    refine lv_icmp_ne (tgt := 57) hx hb dX6_ways_50 (by decide) (fun c50 => ?_) (fun c50 => ?_)
    · replace h := it_f c50 h
      refine lv_aload_n hx hb dX6_ways_57 rfl (lv_at hl 0 rfl) ?_
      refine gf_6_5 C hP (iL (by decide)) (by decide) wd_887 dX6_ways_58 ?_
      refine lv_iload_n hx hb dX6_ways_61 rfl (lv_at hl 2 rfl) ?_
      obtain ⟨gi1, h⟩ := gd_of h
      refine ia_ld C hP (iL (by decide)) (by decide) gi1 dX6_ways_62 ?_
      exact w_X6_ways_63 C ih hP hD hS hl h
    · replace h := it_t c50 h
      refine lv_iconst (v := 4) hx hb dX6_ways_53 (by decide) ?_
      refine lv_goto (tgt := 63) hx hb dX6_ways_54 (by decide) ?_
      exact w_X6_ways_63 C ih hP hD hS hl h
def b_X6_ways_0 (N : Nat) (x1 : Int32) (x2 : Int32) (x3 : Int32) (M : Mem) : Option (Int32 × Mem) := (f_X6_toldWrong x1 x2 M).bind fun r3 => (if r3 = 0 then (f_X6_in x3 (1 : Int32) (2 : Int32) M).bind fun r19 => (if r19 = true then gd (inb (((5 : Int32) * x2) + x3) (len 103)) (b_X6_ways_46 N x1 x2 x3 N (AI M 103 (((5 : Int32) * x2) + x3).toNatClampNeg) (0 : Int32) (0 : Int32) M) else some ((-7 : Int32), M)) else some (r3, M))
set_option maxHeartbeats 4000000 in
set_option maxRecDepth 100000 in
theorem w_X6_ways_0 (C : CX p s m args meth c cX6_ways 8 (some .int) RX6 D cy ad zz 100 21 A) {N : Nat} {M : Mem} {x1 : Int32} {x2 : Int32} {x3 : Int32} {rr : Int32} {M' : Mem} {H : Heap} {locs : List Loc} (hP : va_P D vwCl (pool cy ad 100 21 M) H) (hD : va_D A (pool cy ad 100 21 M)) (hS : va_S A s.heap H locs) {ls : Array Slot} (hl : lv_has ls 8 [(0, .ref (ad 100)), (1, .int x1), (2, .int x2), (3, .int x3)]) (h : b_X6_ways_0 N x1 x2 x3 M = some (rr, M')) : W p l e ({ frames := 6, cells := 0, slots := 0, locals := 142 } : Room) s m args below meth c H locs 0 0 (MQ below (va_Qi (fun (x : Int32) (_ : Unit) => x = rr) (fun _ t => PA D cy ad 100 21 A M' t) A) args s 0 0 A) (F0 m 0 ls []) := by
  obtain ⟨hx, hb, hml, hown, hts, hr, hlk, hK, hN, hA, hX⟩ := id C
  unfold b_X6_ways_0 at h
  refine lv_aload_n hx hb dX6_ways_0 rfl (lv_at hl 0 rfl) ?_
  refine lv_iload_n hx hb dX6_ways_1 rfl (lv_at hl 1 rfl) ?_
  refine lv_iload_n hx hb dX6_ways_2 rfl (lv_at hl 2 rfl) ?_
  obtain ⟨r3, g3, h⟩ := bd_of h
  refine call_iV (As := [.int x1, .int x2]) (rest := []) C hP hD hS (c_X6_toldWrong g3) (iL (by decide)) ⟨6, _, _, ent_6 (by decide), rfl, rfl⟩ (gV wd_1196 wd_1198 wd_59 wd_75 wd_1199) ev_X6_toldWrong ⟨rfl, rfl⟩ ⟨Nat.le_of_ble_eq_true rfl, Nat.le_of_ble_eq_true rfl⟩ hl.1 rfl (Nat.le_of_ble_eq_true rfl) dX6_ways_3 (fun H locs hP hD hS => ?_)
  refine lv_istore (lv' := [(4, .int r3), (0, .ref (ad 100)), (1, .int x1), (2, .int x2), (3, .int x3)]) hx hb dX6_ways_6 hl (by decide) rfl (fun ls hl => ?_)
  refine lv_iload hx hb dX6_ways_8 (lv_at hl 0 rfl) ?_
  refine lv_if_eq (tgt := 16) hx hb dX6_ways_10 (by decide) (fun c10 => ?_) (fun c10 => ?_)
  · replace h := it_t c10 h
    refine lv_iload_n hx hb dX6_ways_16 rfl (lv_at hl 4 rfl) ?_
    refine lv_iconst (v := 1) hx hb dX6_ways_17 (by decide) ?_
    refine lv_iconst (v := 2) hx hb dX6_ways_18 (by decide) ?_
    obtain ⟨r19, g19, h⟩ := bd_of h
    refine call_iS (As := [.int x3, .int (1 : Int32), .int (2 : Int32)]) (rest := []) C hP hD hS (c_X6_in g19) (gS wd_843 wd_844 wd_75 wd_845) es_X6_in ⟨rfl, rfl⟩ ⟨Nat.le_of_ble_eq_true rfl, Nat.le_of_ble_eq_true rfl⟩ hl.1 rfl (Nat.le_of_ble_eq_true rfl) dX6_ways_19 (fun H locs hP hD hS => ?_)
    refine lv_if_ne (tgt := 28) hx hb dX6_ways_22 (by decide) (fun c22 => ?_) (fun c22 => ?_)
    · replace h := it_t (b2i_1 c22) h
      refine lv_aload_n hx hb dX6_ways_28 rfl (lv_at hl 1 rfl) ?_
      refine gf_6_3 C hP (iL (by decide)) (by decide) wd_885 dX6_ways_29 ?_
      refine lv_iconst (v := 5) hx hb dX6_ways_32 (by decide) ?_
      refine lv_iload_n hx hb dX6_ways_33 rfl (lv_at hl 3 rfl) ?_
      refine lv_imul hx hb dX6_ways_34 ?_
      refine lv_iload_n hx hb dX6_ways_35 rfl (lv_at hl 4 rfl) ?_
      refine lv_iadd hx hb dX6_ways_36 ?_
      obtain ⟨gi1, h⟩ := gd_of h
      refine ia_ld C hP (iL (by decide)) (by decide) gi1 dX6_ways_37 ?_
      refine lv_istore (lv' := [(5, .int (AI M 103 (((5 : Int32) * x2) + x3).toNatClampNeg)), (4, .int r3), (0, .ref (ad 100)), (1, .int x1), (2, .int x2), (3, .int x3)]) hx hb dX6_ways_38 hl (by decide) rfl (fun ls hl => ?_)
      refine lv_iconst (v := 0) hx hb dX6_ways_40 (by decide) ?_
      refine lv_istore (lv' := [(6, .int (0 : Int32)), (5, .int (AI M 103 (((5 : Int32) * x2) + x3).toNatClampNeg)), (4, .int r3), (0, .ref (ad 100)), (1, .int x1), (2, .int x2), (3, .int x3)]) hx hb dX6_ways_41 hl (by decide) rfl (fun ls hl => ?_)
      refine lv_iconst (v := 0) hx hb dX6_ways_43 (by decide) ?_
      refine lv_istore (lv' := [(7, .int (0 : Int32)), (6, .int (0 : Int32)), (5, .int (AI M 103 (((5 : Int32) * x2) + x3).toNatClampNeg)), (4, .int r3), (0, .ref (ad 100)), (1, .int x1), (2, .int x2), (3, .int x3)]) hx hb dX6_ways_44 hl (by decide) rfl (fun ls hl => ?_)
      exact w_X6_ways_46 C N _ _ _ _ _ _ hP hD hS _ (lv_sub hl [4, 5, 6, 7, 2, 1, 0] rfl) h
    · replace h := it_f (b2i_n c22) h
      refine lv_bipush (v := -7) hx hb dX6_ways_25 (by decide) ?_
      exact rt_i (r := (-7 : Int32)) C hP hD hS dX6_ways_27 (rw_end h)
  · replace h := it_f c10 h
    refine lv_iload hx hb dX6_ways_13 (lv_at hl 0 rfl) ?_
    exact rt_i (r := r3) C hP hD hS dX6_ways_15 (rw_end h)
def f_X6_ways (N : Nat) (x1 : Int32) (x2 : Int32) (x3 : Int32) (M : Mem) : Option (Int32 × Mem) := b_X6_ways_0 N x1 x2 x3 M
theorem c_X6_ways {l : Launch} {D : va_G} {cy : Nat → ClassId} {ad : Nat → Nat} {zz : (Nat → Nat) × (Nat → Nat)} {N : Nat} {x1 : Int32} {x2 : Int32} {x3 : Int32} {M : Mem} {rr : Int32} {M' : Mem} (h : f_X6_ways N x1 x2 x3 M = some (rr, M')) : CTi l D cy ad zz 100 21 yX6_ways (.code yX6_ways cX6_ways 8 (some .int) :: tb) ({ frames := 6, cells := 0, slots := 0, locals := 142 } : Room) [.ref (ad 100), .int x1, .int x2, .int x3] M rr M' := by
  intro sz
  refine CX.of (by decide +kernel) (fun p e s m args below meth c H ls C hP hD hS hl => ?_) (Nat.le_of_ble_eq_true rfl)
  exact w_X6_ways_0 C hP hD hS hl h
theorem ev_X6_ways : yX6_ways.cls = RX6 ∧ yX6_ways.cls ≠ "java/lang/invoke/MethodHandle" ∧ yX6_ways.cls ≠ "java/lang/invoke/VarHandle" ∧ (parseMethodDescriptor yX6_ways.desc).map (fun d => d.parameters.length) = some 3 := by decide +kernel
def b_X6_whose_46 (N : Nat) (x1 : Int32) (k17 : Int32 → Int32 → Mem → Option (Int32 × Mem)) (x4 : Int32) (t0 : Int32) (t1 : Int32) (M : Mem) : Option (Int32 × Mem) := k17 (t0 ||| t1) (x4 + (1 : Int32)) M
set_option maxHeartbeats 4000000 in
set_option maxRecDepth 100000 in
theorem w_X6_whose_46 (C : CX p s m args meth c cX6_whose 5 (some .int) RX6 D cy ad zz 100 21 A) {N : Nat} {M : Mem} {x1 : Int32} {k17 : Int32 → Int32 → Mem → Option (Int32 × Mem)} {rr : Int32} {M' : Mem} (hk17 : ∀ (x3 : Int32), ∀ (x4 : Int32), ∀ (M : Mem), ∀ (H : Heap) (locs : List Loc), va_P D vwCl (pool cy ad 100 21 M) H → va_D A (pool cy ad 100 21 M) → va_S A s.heap H locs → ∀ (ls : Array Slot), lv_has ls 5 [(0, .ref (ad 100)), (1, .int x1), (3, .int x3), (4, .int x4)] → k17 x3 x4 M = some (rr, M') → W p l e ({ frames := 6, cells := 0, slots := 0, locals := 142 } : Room) s m args below meth c H locs 0 0 (MQ below (va_Qi (fun (x : Int32) (_ : Unit) => x = rr) (fun _ t => PA D cy ad 100 21 A M' t) A) args s 0 0 A) (F0 m 17 ls [])) {x4 : Int32} {t0 : Int32} {t1 : Int32} {H : Heap} {locs : List Loc} (hP : va_P D vwCl (pool cy ad 100 21 M) H) (hD : va_D A (pool cy ad 100 21 M)) (hS : va_S A s.heap H locs) {ls : Array Slot} (hl : lv_has ls 5 [(0, .ref (ad 100)), (1, .int x1), (4, .int x4)]) (h : b_X6_whose_46 N x1 k17 x4 t0 t1 M = some (rr, M')) : W p l e ({ frames := 6, cells := 0, slots := 0, locals := 142 } : Room) s m args below meth c H locs 0 0 (MQ below (va_Qi (fun (x : Int32) (_ : Unit) => x = rr) (fun _ t => PA D cy ad 100 21 A M' t) A) args s 0 0 A) (F0 m 46 ls [.int t1, .int t0]) := by
  obtain ⟨hx, hb, hml, hown, hts, hr, hlk, hK, hN, hA, hX⟩ := id C
  unfold b_X6_whose_46 at h
  refine lv_ior hx hb dX6_whose_46 ?_
  refine lv_istore_n (lv' := [(3, .int (t0 ||| t1)), (0, .ref (ad 100)), (1, .int x1), (4, .int x4)]) hx hb dX6_whose_47 rfl hl (by decide) rfl (fun ls hl => ?_)
  refine lv_iinc (v := (x4 + (1 : Int32))) (lv' := [(4, .int (x4 + (1 : Int32))), (3, .int (t0 ||| t1)), (0, .ref (ad 100)), (1, .int x1)]) hx hb dX6_whose_48 hl (k := 3) rfl rfl (by decide) rfl (fun ls hl => ?_)
  refine lv_goto (tgt := 17) hx hb dX6_whose_51 (by decide) ?_
  exact hk17 _ _ _ _ _ hP hD hS _ (lv_sub hl [2, 3, 1, 0] rfl) h
def b_X6_whose_17 (N : Nat) (x1 : Int32) : Nat → Int32 → Int32 → Mem → Option (Int32 × Mem)
  | 0, _, _, _ => none
  | fu + 1, x3, x4, M => (if (FI M 100 0) ≤ x4 then some (x3, M) else bd2 (f_X6_unlike N x1 x4 M) fun r31 M31 => (if r31 = (-1 : Int32) then b_X6_whose_46 N x1 (b_X6_whose_17 N x1 fu) x4 x3 ((1 : Int32) <<< (x4 &&& 31)) M31 else b_X6_whose_46 N x1 (b_X6_whose_17 N x1 fu) x4 x3 (0 : Int32) M31))
set_option maxHeartbeats 4000000 in
set_option maxRecDepth 100000 in
theorem w_X6_whose_17 (C : CX p s m args meth c cX6_whose 5 (some .int) RX6 D cy ad zz 100 21 A) {N : Nat} {x1 : Int32} {rr : Int32} {M' : Mem}  : ∀ (fu : Nat), ∀ (x3 : Int32), ∀ (x4 : Int32), ∀ (M : Mem), ∀ (H : Heap) (locs : List Loc), va_P D vwCl (pool cy ad 100 21 M) H → va_D A (pool cy ad 100 21 M) → va_S A s.heap H locs → ∀ (ls : Array Slot), lv_has ls 5 [(0, .ref (ad 100)), (1, .int x1), (3, .int x3), (4, .int x4)] → b_X6_whose_17 N x1 fu x3 x4 M = some (rr, M') → W p l e ({ frames := 6, cells := 0, slots := 0, locals := 142 } : Room) s m args below meth c H locs 0 0 (MQ below (va_Qi (fun (x : Int32) (_ : Unit) => x = rr) (fun _ t => PA D cy ad 100 21 A M' t) A) args s 0 0 A) (F0 m 17 ls []) := by
  obtain ⟨hx, hb, hml, hown, hts, hr, hlk, hK, hN, hA, hX⟩ := id C
  intro fu
  induction fu with
  | zero =>
    intro x3 x4 M H locs hP hD hS ls hl h
    exact no_some (show none = some _ from h)
  | succ fu ih =>
    intro x3 x4 M H locs hP hD hS ls hl h
    rw [b_X6_whose_17] at h
    refine lv_iload hx hb dX6_whose_17 (lv_at hl 3 rfl) ?_
    refine lv_aload_n hx hb dX6_whose_19 rfl (lv_at hl 0 rfl) ?_
    refine gf_6_0 C hP (iL (by decide)) (by decide) wd_882 dX6_whose_20 ?_
    refine lv_icmp_ge (tgt := 54) hx hb dX6_whose_23 (by decide) (fun c23 => ?_) (fun c23 => ?_)
    · replace h := it_t c23 h
      refine lv_iload_n hx hb dX6_whose_54 rfl (lv_at hl 2 rfl) ?_
      exact rt_i (r := x3) C hP hD hS dX6_whose_55 (rw_end h)
    · replace h := it_f c23 h
      refine lv_iload_n hx hb dX6_whose_26 rfl (lv_at hl 2 rfl) ?_
      refine lv_aload_n hx hb dX6_whose_27 rfl (lv_at hl 0 rfl) ?_
      refine lv_iload_n hx hb dX6_whose_28 rfl (lv_at hl 1 rfl) ?_
      refine lv_iload hx hb dX6_whose_29 (lv_at hl 3 rfl) ?_
      obtain ⟨r31, M31, g31, h⟩ := bd2_of h
      refine call_iV (As := [.int x1, .int x4]) (rest := [.int x3]) C hP hD hS (c_X6_unlike g31) (iL (by decide)) ⟨6, _, _, ent_6 (by decide), rfl, rfl⟩ (gV wd_1204 wd_1206 wd_61 wd_75 wd_1207) ev_X6_unlike ⟨rfl, rfl⟩ ⟨Nat.le_of_ble_eq_true rfl, Nat.le_of_ble_eq_true rfl⟩ hl.1 rfl (Nat.le_of_ble_eq_true rfl) dX6_whose_31 (fun H locs hP hD hS => ?_)
      refine lv_iconst (v := -1) hx hb dX6_whose_34 (by decide) ?_
      refine lv_icmp_ne (tgt := 45) hx hb dX6_whose_35 (by decide) (fun c35 => ?_) (fun c35 => ?_)
      · replace h := it_f c35 h
        refine lv_iconst (v := 0) hx hb dX6_whose_45 (by decide) ?_
        exact w_X6_whose_46 C ih hP hD hS (lv_sub hl [0, 1, 3] rfl) h
      · replace h := it_t c35 h
        refine lv_iconst (v := 1) hx hb dX6_whose_38 (by decide) ?_
        refine lv_iload hx hb dX6_whose_39 (lv_at hl 3 rfl) ?_
        refine lv_ishl hx hb dX6_whose_41 ?_
        refine lv_goto (tgt := 46) hx hb dX6_whose_42 (by decide) ?_
        exact w_X6_whose_46 C ih hP hD hS (lv_sub hl [0, 1, 3] rfl) h
def b_X6_whose_0 (N : Nat) (x1 : Int32) (M : Mem) : Option (Int32 × Mem) := (f_X6_sheetWrong x1 M).bind fun r2 => (if r2 = 0 then b_X6_whose_17 N x1 N (0 : Int32) (0 : Int32) M else some (r2, M))
set_option maxHeartbeats 4000000 in
set_option maxRecDepth 100000 in
theorem w_X6_whose_0 (C : CX p s m args meth c cX6_whose 5 (some .int) RX6 D cy ad zz 100 21 A) {N : Nat} {M : Mem} {x1 : Int32} {rr : Int32} {M' : Mem} {H : Heap} {locs : List Loc} (hP : va_P D vwCl (pool cy ad 100 21 M) H) (hD : va_D A (pool cy ad 100 21 M)) (hS : va_S A s.heap H locs) {ls : Array Slot} (hl : lv_has ls 5 [(0, .ref (ad 100)), (1, .int x1)]) (h : b_X6_whose_0 N x1 M = some (rr, M')) : W p l e ({ frames := 6, cells := 0, slots := 0, locals := 142 } : Room) s m args below meth c H locs 0 0 (MQ below (va_Qi (fun (x : Int32) (_ : Unit) => x = rr) (fun _ t => PA D cy ad 100 21 A M' t) A) args s 0 0 A) (F0 m 0 ls []) := by
  obtain ⟨hx, hb, hml, hown, hts, hr, hlk, hK, hN, hA, hX⟩ := id C
  unfold b_X6_whose_0 at h
  refine lv_aload_n hx hb dX6_whose_0 rfl (lv_at hl 0 rfl) ?_
  refine lv_iload_n hx hb dX6_whose_1 rfl (lv_at hl 1 rfl) ?_
  obtain ⟨r2, g2, h⟩ := bd_of h
  refine call_iV (As := [.int x1]) (rest := []) C hP hD hS (c_X6_sheetWrong g2) (iL (by decide)) ⟨6, _, _, ent_6 (by decide), rfl, rfl⟩ (gV wd_1200 wd_1202 wd_60 wd_75 wd_1203) ev_X6_sheetWrong ⟨rfl, rfl⟩ ⟨Nat.le_of_ble_eq_true rfl, Nat.le_of_ble_eq_true rfl⟩ hl.1 rfl (Nat.le_of_ble_eq_true rfl) dX6_whose_2 (fun H locs hP hD hS => ?_)
  refine lv_istore_n (lv' := [(2, .int r2), (0, .ref (ad 100)), (1, .int x1)]) hx hb dX6_whose_5 rfl hl (by decide) rfl (fun ls hl => ?_)
  refine lv_iload_n hx hb dX6_whose_6 rfl (lv_at hl 0 rfl) ?_
  refine lv_if_eq (tgt := 12) hx hb dX6_whose_7 (by decide) (fun c7 => ?_) (fun c7 => ?_)
  · replace h := it_t c7 h
    refine lv_iconst (v := 0) hx hb dX6_whose_12 (by decide) ?_
    refine lv_istore_n (lv' := [(3, .int (0 : Int32)), (2, .int r2), (0, .ref (ad 100)), (1, .int x1)]) hx hb dX6_whose_13 rfl hl (by decide) rfl (fun ls hl => ?_)
    refine lv_iconst (v := 0) hx hb dX6_whose_14 (by decide) ?_
    refine lv_istore (lv' := [(4, .int (0 : Int32)), (3, .int (0 : Int32)), (2, .int r2), (0, .ref (ad 100)), (1, .int x1)]) hx hb dX6_whose_15 hl (by decide) rfl (fun ls hl => ?_)
    exact w_X6_whose_17 C N _ _ _ _ _ hP hD hS _ (lv_sub hl [3, 4, 1, 0] rfl) h
  · replace h := it_f c7 h
    refine lv_iload_n hx hb dX6_whose_10 rfl (lv_at hl 0 rfl) ?_
    exact rt_i (r := r2) C hP hD hS dX6_whose_11 (rw_end h)
def f_X6_whose (N : Nat) (x1 : Int32) (M : Mem) : Option (Int32 × Mem) := b_X6_whose_0 N x1 M
theorem c_X6_whose {l : Launch} {D : va_G} {cy : Nat → ClassId} {ad : Nat → Nat} {zz : (Nat → Nat) × (Nat → Nat)} {N : Nat} {x1 : Int32} {M : Mem} {rr : Int32} {M' : Mem} (h : f_X6_whose N x1 M = some (rr, M')) : CTi l D cy ad zz 100 21 yX6_whose (.code yX6_whose cX6_whose 5 (some .int) :: tb) ({ frames := 6, cells := 0, slots := 0, locals := 142 } : Room) [.ref (ad 100), .int x1] M rr M' := by
  intro sz
  refine CX.of (by decide +kernel) (fun p e s m args below meth c H ls C hP hD hS hl => ?_) (Nat.le_of_ble_eq_true rfl)
  exact w_X6_whose_0 C hP hD hS hl h
theorem ev_X6_whose : yX6_whose.cls = RX6 ∧ yX6_whose.cls ≠ "java/lang/invoke/MethodHandle" ∧ yX6_whose.cls ≠ "java/lang/invoke/VarHandle" ∧ (parseMethodDescriptor yX6_whose.desc).map (fun d => d.parameters.length) = some 1 := by decide +kernel
def b_X6_laws_60 (N : Nat) (x1 : Int32) (x2 : Int32) (k25 : Int32 → Int32 → Int32 → Mem → Option (Int32 × Mem)) (x4 : Int32) (x6 : Int32) (t0 : Int32) (t1 : Int32) (M : Mem) : Option (Int32 × Mem) := k25 x4 (t0 ||| t1) (x6 + (1 : Int32)) M
set_option maxHeartbeats 4000000 in
set_option maxRecDepth 100000 in
theorem w_X6_laws_60 (C : CX p s m args meth c cX6_laws 7 (some .int) RX6 D cy ad zz 100 21 A) {N : Nat} {M : Mem} {x1 : Int32} {x2 : Int32} {k25 : Int32 → Int32 → Int32 → Mem → Option (Int32 × Mem)} {rr : Int32} {M' : Mem} (hk25 : ∀ (x4 : Int32), ∀ (x5 : Int32), ∀ (x6 : Int32), ∀ (M : Mem), ∀ (H : Heap) (locs : List Loc), va_P D vwCl (pool cy ad 100 21 M) H → va_D A (pool cy ad 100 21 M) → va_S A s.heap H locs → ∀ (ls : Array Slot), lv_has ls 7 [(0, .ref (ad 100)), (1, .int x1), (2, .int x2), (4, .int x4), (5, .int x5), (6, .int x6)] → k25 x4 x5 x6 M = some (rr, M') → W p l e ({ frames := 6, cells := 0, slots := 0, locals := 142 } : Room) s m args below meth c H locs 0 0 (MQ below (va_Qi (fun (x : Int32) (_ : Unit) => x = rr) (fun _ t => PA D cy ad 100 21 A M' t) A) args s 0 0 A) (F0 m 25 ls [])) {x4 : Int32} {x6 : Int32} {t0 : Int32} {t1 : Int32} {H : Heap} {locs : List Loc} (hP : va_P D vwCl (pool cy ad 100 21 M) H) (hD : va_D A (pool cy ad 100 21 M)) (hS : va_S A s.heap H locs) {ls : Array Slot} (hl : lv_has ls 7 [(0, .ref (ad 100)), (1, .int x1), (2, .int x2), (4, .int x4), (6, .int x6)]) (h : b_X6_laws_60 N x1 x2 k25 x4 x6 t0 t1 M = some (rr, M')) : W p l e ({ frames := 6, cells := 0, slots := 0, locals := 142 } : Room) s m args below meth c H locs 0 0 (MQ below (va_Qi (fun (x : Int32) (_ : Unit) => x = rr) (fun _ t => PA D cy ad 100 21 A M' t) A) args s 0 0 A) (F0 m 60 ls [.int t1, .int t0]) := by
  obtain ⟨hx, hb, hml, hown, hts, hr, hlk, hK, hN, hA, hX⟩ := id C
  unfold b_X6_laws_60 at h
  refine lv_ior hx hb dX6_laws_60 ?_
  refine lv_istore (lv' := [(5, .int (t0 ||| t1)), (0, .ref (ad 100)), (1, .int x1), (2, .int x2), (4, .int x4), (6, .int x6)]) hx hb dX6_laws_61 hl (by decide) rfl (fun ls hl => ?_)
  refine lv_iinc (v := (x6 + (1 : Int32))) (lv' := [(6, .int (x6 + (1 : Int32))), (5, .int (t0 ||| t1)), (0, .ref (ad 100)), (1, .int x1), (2, .int x2), (4, .int x4)]) hx hb dX6_laws_63 hl (k := 5) rfl rfl (by decide) rfl (fun ls hl => ?_)
  refine lv_goto (tgt := 25) hx hb dX6_laws_66 (by decide) ?_
  exact hk25 _ _ _ _ _ _ hP hD hS _ (lv_sub hl [2, 3, 4, 5, 1, 0] rfl) h
def b_X6_laws_40 (N : Nat) (x1 : Int32) (x2 : Int32) (k25 : Int32 → Int32 → Int32 → Mem → Option (Int32 × Mem)) (x4 : Int32) (x5 : Int32) (x6 : Int32) (M : Mem) : Option (Int32 × Mem) := bd2 (f_X6_unlike N x1 x2 M) fun r45 M45 => (if r45 = (-1 : Int32) then b_X6_laws_60 N x1 x2 k25 x4 x6 x5 ((1 : Int32) <<< (x6 &&& 31)) M45 else b_X6_laws_60 N x1 x2 k25 x4 x6 x5 (0 : Int32) M45)
set_option maxHeartbeats 4000000 in
set_option maxRecDepth 100000 in
theorem w_X6_laws_40 (C : CX p s m args meth c cX6_laws 7 (some .int) RX6 D cy ad zz 100 21 A) {N : Nat} {M : Mem} {x1 : Int32} {x2 : Int32} {k25 : Int32 → Int32 → Int32 → Mem → Option (Int32 × Mem)} {rr : Int32} {M' : Mem} (hk25 : ∀ (x4 : Int32), ∀ (x5 : Int32), ∀ (x6 : Int32), ∀ (M : Mem), ∀ (H : Heap) (locs : List Loc), va_P D vwCl (pool cy ad 100 21 M) H → va_D A (pool cy ad 100 21 M) → va_S A s.heap H locs → ∀ (ls : Array Slot), lv_has ls 7 [(0, .ref (ad 100)), (1, .int x1), (2, .int x2), (4, .int x4), (5, .int x5), (6, .int x6)] → k25 x4 x5 x6 M = some (rr, M') → W p l e ({ frames := 6, cells := 0, slots := 0, locals := 142 } : Room) s m args below meth c H locs 0 0 (MQ below (va_Qi (fun (x : Int32) (_ : Unit) => x = rr) (fun _ t => PA D cy ad 100 21 A M' t) A) args s 0 0 A) (F0 m 25 ls [])) {x4 : Int32} {x5 : Int32} {x6 : Int32} {H : Heap} {locs : List Loc} (hP : va_P D vwCl (pool cy ad 100 21 M) H) (hD : va_D A (pool cy ad 100 21 M)) (hS : va_S A s.heap H locs) {ls : Array Slot} (hl : lv_has ls 7 [(0, .ref (ad 100)), (1, .int x1), (2, .int x2), (4, .int x4), (5, .int x5), (6, .int x6)]) (h : b_X6_laws_40 N x1 x2 k25 x4 x5 x6 M = some (rr, M')) : W p l e ({ frames := 6, cells := 0, slots := 0, locals := 142 } : Room) s m args below meth c H locs 0 0 (MQ below (va_Qi (fun (x : Int32) (_ : Unit) => x = rr) (fun _ t => PA D cy ad 100 21 A M' t) A) args s 0 0 A) (F0 m 40 ls []) := by
  obtain ⟨hx, hb, hml, hown, hts, hr, hlk, hK, hN, hA, hX⟩ := id C
  unfold b_X6_laws_40 at h
  refine lv_iload hx hb dX6_laws_40 (lv_at hl 4 rfl) ?_
  refine lv_aload_n hx hb dX6_laws_42 rfl (lv_at hl 0 rfl) ?_
  refine lv_iload_n hx hb dX6_laws_43 rfl (lv_at hl 1 rfl) ?_
  refine lv_iload_n hx hb dX6_laws_44 rfl (lv_at hl 2 rfl) ?_
  obtain ⟨r45, M45, g45, h⟩ := bd2_of h
  refine call_iV (As := [.int x1, .int x2]) (rest := [.int x5]) C hP hD hS (c_X6_unlike g45) (iL (by decide)) ⟨6, _, _, ent_6 (by decide), rfl, rfl⟩ (gV wd_1204 wd_1206 wd_61 wd_75 wd_1207) ev_X6_unlike ⟨rfl, rfl⟩ ⟨Nat.le_of_ble_eq_true rfl, Nat.le_of_ble_eq_true rfl⟩ hl.1 rfl (Nat.le_of_ble_eq_true rfl) dX6_laws_45 (fun H locs hP hD hS => ?_)
  refine lv_iconst (v := -1) hx hb dX6_laws_48 (by decide) ?_
  refine lv_icmp_ne (tgt := 59) hx hb dX6_laws_49 (by decide) (fun c49 => ?_) (fun c49 => ?_)
  · replace h := it_f c49 h
    refine lv_iconst (v := 0) hx hb dX6_laws_59 (by decide) ?_
    exact w_X6_laws_60 C hk25 hP hD hS (lv_sub hl [0, 1, 2, 3, 5] rfl) h
  · replace h := it_t c49 h
    refine lv_iconst (v := 1) hx hb dX6_laws_52 (by decide) ?_
    refine lv_iload hx hb dX6_laws_53 (lv_at hl 5 rfl) ?_
    refine lv_ishl hx hb dX6_laws_55 ?_
    refine lv_goto (tgt := 60) hx hb dX6_laws_56 (by decide) ?_
    exact w_X6_laws_60 C hk25 hP hD hS (lv_sub hl [0, 1, 2, 3, 5] rfl) h
def b_X6_laws_25 (N : Nat) (x1 : Int32) (x2 : Int32) : Nat → Int32 → Int32 → Int32 → Mem → Option (Int32 × Mem)
  | 0, _, _, _, _ => none
  | fu + 1, x4, x5, x6, M => (if (FI M 100 12) ≤ x6 then some (x5, (sFI M 100 13 x4)) else b_X6_laws_40 N x1 x2 (b_X6_laws_25 N x1 x2 fu) x4 x5 x6 (sFI M 100 13 x6))
set_option maxHeartbeats 4000000 in
set_option maxRecDepth 100000 in
theorem w_X6_laws_25 (C : CX p s m args meth c cX6_laws 7 (some .int) RX6 D cy ad zz 100 21 A) {N : Nat} {x1 : Int32} {x2 : Int32} {rr : Int32} {M' : Mem}  : ∀ (fu : Nat), ∀ (x4 : Int32), ∀ (x5 : Int32), ∀ (x6 : Int32), ∀ (M : Mem), ∀ (H : Heap) (locs : List Loc), va_P D vwCl (pool cy ad 100 21 M) H → va_D A (pool cy ad 100 21 M) → va_S A s.heap H locs → ∀ (ls : Array Slot), lv_has ls 7 [(0, .ref (ad 100)), (1, .int x1), (2, .int x2), (4, .int x4), (5, .int x5), (6, .int x6)] → b_X6_laws_25 N x1 x2 fu x4 x5 x6 M = some (rr, M') → W p l e ({ frames := 6, cells := 0, slots := 0, locals := 142 } : Room) s m args below meth c H locs 0 0 (MQ below (va_Qi (fun (x : Int32) (_ : Unit) => x = rr) (fun _ t => PA D cy ad 100 21 A M' t) A) args s 0 0 A) (F0 m 25 ls []) := by
  obtain ⟨hx, hb, hml, hown, hts, hr, hlk, hK, hN, hA, hX⟩ := id C
  intro fu
  induction fu with
  | zero =>
    intro x4 x5 x6 M H locs hP hD hS ls hl h
    exact no_some (show none = some _ from h)
  | succ fu ih =>
    intro x4 x5 x6 M H locs hP hD hS ls hl h
    rw [b_X6_laws_25] at h
    refine lv_iload hx hb dX6_laws_25 (lv_at hl 5 rfl) ?_
    refine lv_aload_n hx hb dX6_laws_27 rfl (lv_at hl 0 rfl) ?_
    refine gf_6_12 C hP (iL (by decide)) (by decide) wd_894 dX6_laws_28 ?_
    refine lv_icmp_ge (tgt := 69) hx hb dX6_laws_31 (by decide) (fun c31 => ?_) (fun c31 => ?_)
    · replace h := it_t c31 h
      refine lv_aload_n hx hb dX6_laws_69 rfl (lv_at hl 0 rfl) ?_
      refine lv_iload hx hb dX6_laws_70 (lv_at hl 3 rfl) ?_
      refine pf_6_13 C hP hD hS (iL (by decide)) (by decide) wd_895 dX6_laws_72 (fun H locs hP hD hS => ?_)
      refine lv_iload hx hb dX6_laws_75 (lv_at hl 4 rfl) ?_
      exact rt_i (r := x5) C hP hD hS dX6_laws_77 (rw_end h)
    · replace h := it_f c31 h
      refine lv_aload_n hx hb dX6_laws_34 rfl (lv_at hl 0 rfl) ?_
      refine lv_iload hx hb dX6_laws_35 (lv_at hl 5 rfl) ?_
      refine pf_6_13 C hP hD hS (iL (by decide)) (by decide) wd_895 dX6_laws_37 (fun H locs hP hD hS => ?_)
      exact w_X6_laws_40 C ih hP hD hS hl h
def b_X6_laws_0 (N : Nat) (x1 : Int32) (x2 : Int32) (M : Mem) : Option (Int32 × Mem) := (f_X6_toldWrong x1 x2 M).bind fun r3 => (if r3 = 0 then b_X6_laws_25 N x1 x2 N (FI M 100 13) (0 : Int32) (0 : Int32) M else some (r3, M))
set_option maxHeartbeats 4000000 in
set_option maxRecDepth 100000 in
theorem w_X6_laws_0 (C : CX p s m args meth c cX6_laws 7 (some .int) RX6 D cy ad zz 100 21 A) {N : Nat} {M : Mem} {x1 : Int32} {x2 : Int32} {rr : Int32} {M' : Mem} {H : Heap} {locs : List Loc} (hP : va_P D vwCl (pool cy ad 100 21 M) H) (hD : va_D A (pool cy ad 100 21 M)) (hS : va_S A s.heap H locs) {ls : Array Slot} (hl : lv_has ls 7 [(0, .ref (ad 100)), (1, .int x1), (2, .int x2)]) (h : b_X6_laws_0 N x1 x2 M = some (rr, M')) : W p l e ({ frames := 6, cells := 0, slots := 0, locals := 142 } : Room) s m args below meth c H locs 0 0 (MQ below (va_Qi (fun (x : Int32) (_ : Unit) => x = rr) (fun _ t => PA D cy ad 100 21 A M' t) A) args s 0 0 A) (F0 m 0 ls []) := by
  obtain ⟨hx, hb, hml, hown, hts, hr, hlk, hK, hN, hA, hX⟩ := id C
  unfold b_X6_laws_0 at h
  refine lv_aload_n hx hb dX6_laws_0 rfl (lv_at hl 0 rfl) ?_
  refine lv_iload_n hx hb dX6_laws_1 rfl (lv_at hl 1 rfl) ?_
  refine lv_iload_n hx hb dX6_laws_2 rfl (lv_at hl 2 rfl) ?_
  obtain ⟨r3, g3, h⟩ := bd_of h
  refine call_iV (As := [.int x1, .int x2]) (rest := []) C hP hD hS (c_X6_toldWrong g3) (iL (by decide)) ⟨6, _, _, ent_6 (by decide), rfl, rfl⟩ (gV wd_1196 wd_1198 wd_59 wd_75 wd_1199) ev_X6_toldWrong ⟨rfl, rfl⟩ ⟨Nat.le_of_ble_eq_true rfl, Nat.le_of_ble_eq_true rfl⟩ hl.1 rfl (Nat.le_of_ble_eq_true rfl) dX6_laws_3 (fun H locs hP hD hS => ?_)
  refine lv_istore_n (lv' := [(3, .int r3), (0, .ref (ad 100)), (1, .int x1), (2, .int x2)]) hx hb dX6_laws_6 rfl hl (by decide) rfl (fun ls hl => ?_)
  refine lv_iload_n hx hb dX6_laws_7 rfl (lv_at hl 0 rfl) ?_
  refine lv_if_eq (tgt := 13) hx hb dX6_laws_8 (by decide) (fun c8 => ?_) (fun c8 => ?_)
  · replace h := it_t c8 h
    refine lv_aload_n hx hb dX6_laws_13 rfl (lv_at hl 1 rfl) ?_
    refine gf_6_13 C hP (iL (by decide)) (by decide) wd_895 dX6_laws_14 ?_
    refine lv_istore (lv' := [(4, .int (FI M 100 13)), (3, .int r3), (0, .ref (ad 100)), (1, .int x1), (2, .int x2)]) hx hb dX6_laws_17 hl (by decide) rfl (fun ls hl => ?_)
    refine lv_iconst (v := 0) hx hb dX6_laws_19 (by decide) ?_
    refine lv_istore (lv' := [(5, .int (0 : Int32)), (4, .int (FI M 100 13)), (3, .int r3), (0, .ref (ad 100)), (1, .int x1), (2, .int x2)]) hx hb dX6_laws_20 hl (by decide) rfl (fun ls hl => ?_)
    refine lv_iconst (v := 0) hx hb dX6_laws_22 (by decide) ?_
    refine lv_istore (lv' := [(6, .int (0 : Int32)), (5, .int (0 : Int32)), (4, .int (FI M 100 13)), (3, .int r3), (0, .ref (ad 100)), (1, .int x1), (2, .int x2)]) hx hb dX6_laws_23 hl (by decide) rfl (fun ls hl => ?_)
    exact w_X6_laws_25 C N _ _ _ _ _ _ hP hD hS _ (lv_sub hl [4, 5, 6, 2, 1, 0] rfl) h
  · replace h := it_f c8 h
    refine lv_iload_n hx hb dX6_laws_11 rfl (lv_at hl 0 rfl) ?_
    exact rt_i (r := r3) C hP hD hS dX6_laws_12 (rw_end h)
def f_X6_laws (N : Nat) (x1 : Int32) (x2 : Int32) (M : Mem) : Option (Int32 × Mem) := b_X6_laws_0 N x1 x2 M
theorem c_X6_laws {l : Launch} {D : va_G} {cy : Nat → ClassId} {ad : Nat → Nat} {zz : (Nat → Nat) × (Nat → Nat)} {N : Nat} {x1 : Int32} {x2 : Int32} {M : Mem} {rr : Int32} {M' : Mem} (h : f_X6_laws N x1 x2 M = some (rr, M')) : CTi l D cy ad zz 100 21 yX6_laws (.code yX6_laws cX6_laws 7 (some .int) :: tb) ({ frames := 6, cells := 0, slots := 0, locals := 142 } : Room) [.ref (ad 100), .int x1, .int x2] M rr M' := by
  intro sz
  refine CX.of (by decide +kernel) (fun p e s m args below meth c H ls C hP hD hS hl => ?_) (Nat.le_of_ble_eq_true rfl)
  exact w_X6_laws_0 C hP hD hS hl h
theorem ev_X6_laws : yX6_laws.cls = RX6 ∧ yX6_laws.cls ≠ "java/lang/invoke/MethodHandle" ∧ yX6_laws.cls ≠ "java/lang/invoke/VarHandle" ∧ (parseMethodDescriptor yX6_laws.desc).map (fun d => d.parameters.length) = some 2 := by decide +kernel
def b_X6_film_107 (N : Nat) (x1 : Int32) (x2 : Int32) (x3 : Int32) (k57 : Int32 → Mem → Option (Int32 × Mem)) (x4 : Int32) (M : Mem) : Option (Int32 × Mem) := k57 (x4 + (1 : Int32)) M
set_option maxHeartbeats 4000000 in
set_option maxRecDepth 100000 in
theorem w_X6_film_107 (C : CX p s m args meth c cX6_film 5 (some .int) RX6 D cy ad zz 100 21 A) {N : Nat} {M : Mem} {x1 : Int32} {x2 : Int32} {x3 : Int32} {k57 : Int32 → Mem → Option (Int32 × Mem)} {rr : Int32} {M' : Mem} (hk57 : ∀ (x4 : Int32), ∀ (M : Mem), ∀ (H : Heap) (locs : List Loc), va_P D vwCl (pool cy ad 100 21 M) H → va_D A (pool cy ad 100 21 M) → va_S A s.heap H locs → ∀ (ls : Array Slot), lv_has ls 5 [(0, .ref (ad 100)), (1, .int x1), (2, .int x2), (3, .int x3), (4, .int x4)] → k57 x4 M = some (rr, M') → W p l e ({ frames := 5, cells := 0, slots := 0, locals := 118 } : Room) s m args below meth c H locs 0 0 (MQ below (va_Qi (fun (x : Int32) (_ : Unit) => x = rr) (fun _ t => PA D cy ad 100 21 A M' t) A) args s 0 0 A) (F0 m 57 ls [])) {x4 : Int32} {H : Heap} {locs : List Loc} (hP : va_P D vwCl (pool cy ad 100 21 M) H) (hD : va_D A (pool cy ad 100 21 M)) (hS : va_S A s.heap H locs) {ls : Array Slot} (hl : lv_has ls 5 [(0, .ref (ad 100)), (1, .int x1), (2, .int x2), (3, .int x3), (4, .int x4)]) (h : b_X6_film_107 N x1 x2 x3 k57 x4 M = some (rr, M')) : W p l e ({ frames := 5, cells := 0, slots := 0, locals := 118 } : Room) s m args below meth c H locs 0 0 (MQ below (va_Qi (fun (x : Int32) (_ : Unit) => x = rr) (fun _ t => PA D cy ad 100 21 A M' t) A) args s 0 0 A) (F0 m 107 ls []) := by
  obtain ⟨hx, hb, hml, hown, hts, hr, hlk, hK, hN, hA, hX⟩ := id C
  unfold b_X6_film_107 at h
  refine lv_iinc (v := (x4 + (1 : Int32))) (lv' := [(4, .int (x4 + (1 : Int32))), (0, .ref (ad 100)), (1, .int x1), (2, .int x2), (3, .int x3)]) hx hb dX6_film_107 hl (k := 4) rfl rfl (by decide) rfl (fun ls hl => ?_)
  refine lv_goto (tgt := 57) hx hb dX6_film_110 (by decide) ?_
  exact hk57 _ _ _ _ hP hD hS _ (lv_sub hl [1, 2, 3, 4, 0] rfl) h
def b_X6_film_77 (N : Nat) (x1 : Int32) (x2 : Int32) (x3 : Int32) (k57 : Int32 → Mem → Option (Int32 × Mem)) (x4 : Int32) (M : Mem) : Option (Int32 × Mem) := (if x3 ≤ x4 then b_X6_film_107 N x1 x2 x3 k57 x4 M else (f_X6_nightOf N M).bind fun M84 => gd (inb ((5 : Int32) * x2) (len 103)) (gd (inb (((40 : Int32) * x1) + x4) (len 113)) (b_X6_film_107 N x1 x2 x3 k57 x4 (sAI M84 113 (((40 : Int32) * x1) + x4).toNatClampNeg (AI M84 103 ((5 : Int32) * x2).toNatClampNeg)))))
set_option maxHeartbeats 4000000 in
set_option maxRecDepth 100000 in
theorem w_X6_film_77 (C : CX p s m args meth c cX6_film 5 (some .int) RX6 D cy ad zz 100 21 A) {N : Nat} {M : Mem} {x1 : Int32} {x2 : Int32} {x3 : Int32} {k57 : Int32 → Mem → Option (Int32 × Mem)} {rr : Int32} {M' : Mem} (hk57 : ∀ (x4 : Int32), ∀ (M : Mem), ∀ (H : Heap) (locs : List Loc), va_P D vwCl (pool cy ad 100 21 M) H → va_D A (pool cy ad 100 21 M) → va_S A s.heap H locs → ∀ (ls : Array Slot), lv_has ls 5 [(0, .ref (ad 100)), (1, .int x1), (2, .int x2), (3, .int x3), (4, .int x4)] → k57 x4 M = some (rr, M') → W p l e ({ frames := 5, cells := 0, slots := 0, locals := 118 } : Room) s m args below meth c H locs 0 0 (MQ below (va_Qi (fun (x : Int32) (_ : Unit) => x = rr) (fun _ t => PA D cy ad 100 21 A M' t) A) args s 0 0 A) (F0 m 57 ls [])) {x4 : Int32} {H : Heap} {locs : List Loc} (hP : va_P D vwCl (pool cy ad 100 21 M) H) (hD : va_D A (pool cy ad 100 21 M)) (hS : va_S A s.heap H locs) {ls : Array Slot} (hl : lv_has ls 5 [(0, .ref (ad 100)), (1, .int x1), (2, .int x2), (3, .int x3), (4, .int x4)]) (h : b_X6_film_77 N x1 x2 x3 k57 x4 M = some (rr, M')) : W p l e ({ frames := 5, cells := 0, slots := 0, locals := 118 } : Room) s m args below meth c H locs 0 0 (MQ below (va_Qi (fun (x : Int32) (_ : Unit) => x = rr) (fun _ t => PA D cy ad 100 21 A M' t) A) args s 0 0 A) (F0 m 77 ls []) := by
  obtain ⟨hx, hb, hml, hown, hts, hr, hlk, hK, hN, hA, hX⟩ := id C
  unfold b_X6_film_77 at h
  refine lv_iload hx hb dX6_film_77 (lv_at hl 4 rfl) ?_
  refine lv_iload_n hx hb dX6_film_79 rfl (lv_at hl 3 rfl) ?_
  refine lv_icmp_ge (tgt := 107) hx hb dX6_film_80 (by decide) (fun c80 => ?_) (fun c80 => ?_)
  · replace h := it_t c80 h
    exact w_X6_film_107 C hk57 hP hD hS hl h
  · replace h := it_f c80 h
    refine lv_aload_n hx hb dX6_film_83 rfl (lv_at hl 0 rfl) ?_
    obtain ⟨M84, g84, h⟩ := bd_of h
    refine call_vV (As := []) (rest := []) C hP hD hS (c_X6_nightOf g84) (iL (by decide)) ⟨6, _, _, ent_6 (by decide), rfl, rfl⟩ (gV wd_1088 wd_1090 wd_45 wd_75 wd_1091) ev_X6_nightOf ⟨rfl, rfl⟩ ⟨Nat.le_of_ble_eq_true rfl, Nat.le_of_ble_eq_true rfl⟩ hl.1 rfl (Nat.le_of_ble_eq_true rfl) dX6_film_84 (fun H locs hP hD hS => ?_)
    refine lv_aload_n hx hb dX6_film_87 rfl (lv_at hl 0 rfl) ?_
    refine gf_6_20 C hP (iL (by decide)) (by decide) wd_902 dX6_film_88 ?_
    refine lv_bipush (v := 40) hx hb dX6_film_91 (by decide) ?_
    refine lv_iload_n hx hb dX6_film_93 rfl (lv_at hl 1 rfl) ?_
    refine lv_imul hx hb dX6_film_94 ?_
    refine lv_iload hx hb dX6_film_95 (lv_at hl 4 rfl) ?_
    refine lv_iadd hx hb dX6_film_97 ?_
    refine lv_aload_n hx hb dX6_film_98 rfl (lv_at hl 0 rfl) ?_
    refine gf_6_3 C hP (iL (by decide)) (by decide) wd_885 dX6_film_99 ?_
    refine lv_iconst (v := 5) hx hb dX6_film_102 (by decide) ?_
    refine lv_iload_n hx hb dX6_film_103 rfl (lv_at hl 2 rfl) ?_
    refine lv_imul hx hb dX6_film_104 ?_
    obtain ⟨gi1, h⟩ := gd_of h
    refine ia_ld C hP (iL (by decide)) (by decide) gi1 dX6_film_105 ?_
    obtain ⟨gi2, h⟩ := gd_of h
    refine ia_st C hP hD hS (iL (by decide)) (by decide) gi2 dX6_film_106 (fun H locs hP hD hS => ?_)
    exact w_X6_film_107 C hk57 hP hD hS hl h
def b_X6_film_57 (N : Nat) (x1 : Int32) (x2 : Int32) (x3 : Int32) : Nat → Int32 → Mem → Option (Int32 × Mem)
  | 0, _, _ => none
  | fu + 1, x4, M => (if (40 : Int32) ≤ x4 then (f_X6_lays N M).bind fun M114 => some (x3, M114) else gd (inb (((40 : Int32) * x1) + x4) (len 113)) (b_X6_film_77 N x1 x2 x3 (b_X6_film_57 N x1 x2 x3 fu) x4 (sAI M 113 (((40 : Int32) * x1) + x4).toNatClampNeg (0 : Int32))))
set_option maxHeartbeats 4000000 in
set_option maxRecDepth 100000 in
theorem w_X6_film_57 (C : CX p s m args meth c cX6_film 5 (some .int) RX6 D cy ad zz 100 21 A) {N : Nat} {x1 : Int32} {x2 : Int32} {x3 : Int32} {rr : Int32} {M' : Mem}  : ∀ (fu : Nat), ∀ (x4 : Int32), ∀ (M : Mem), ∀ (H : Heap) (locs : List Loc), va_P D vwCl (pool cy ad 100 21 M) H → va_D A (pool cy ad 100 21 M) → va_S A s.heap H locs → ∀ (ls : Array Slot), lv_has ls 5 [(0, .ref (ad 100)), (1, .int x1), (2, .int x2), (3, .int x3), (4, .int x4)] → b_X6_film_57 N x1 x2 x3 fu x4 M = some (rr, M') → W p l e ({ frames := 5, cells := 0, slots := 0, locals := 118 } : Room) s m args below meth c H locs 0 0 (MQ below (va_Qi (fun (x : Int32) (_ : Unit) => x = rr) (fun _ t => PA D cy ad 100 21 A M' t) A) args s 0 0 A) (F0 m 57 ls []) := by
  obtain ⟨hx, hb, hml, hown, hts, hr, hlk, hK, hN, hA, hX⟩ := id C
  intro fu
  induction fu with
  | zero =>
    intro x4 M H locs hP hD hS ls hl h
    exact no_some (show none = some _ from h)
  | succ fu ih =>
    intro x4 M H locs hP hD hS ls hl h
    rw [b_X6_film_57] at h
    refine lv_iload hx hb dX6_film_57 (lv_at hl 4 rfl) ?_
    refine lv_bipush (v := 40) hx hb dX6_film_59 (by decide) ?_
    refine lv_icmp_ge (tgt := 113) hx hb dX6_film_61 (by decide) (fun c61 => ?_) (fun c61 => ?_)
    · replace h := it_t c61 h
      refine lv_aload_n hx hb dX6_film_113 rfl (lv_at hl 0 rfl) ?_
      obtain ⟨M114, g114, h⟩ := bd_of h
      refine call_vV (As := []) (rest := []) C hP hD hS (c_X6_lays g114) (iL (by decide)) ⟨6, _, _, ent_6 (by decide), rfl, rfl⟩ (gV wd_1124 wd_1126 wd_52 wd_75 wd_1127) ev_X6_lays ⟨rfl, rfl⟩ ⟨Nat.le_of_ble_eq_true rfl, Nat.le_of_ble_eq_true rfl⟩ hl.1 rfl (Nat.le_of_ble_eq_true rfl) dX6_film_114 (fun H locs hP hD hS => ?_)
      refine lv_iload_n hx hb dX6_film_117 rfl (lv_at hl 3 rfl) ?_
      exact rt_i (r := x3) C hP hD hS dX6_film_118 (rw_end h)
    · replace h := it_f c61 h
      refine lv_aload_n hx hb dX6_film_64 rfl (lv_at hl 0 rfl) ?_
      refine gf_6_20 C hP (iL (by decide)) (by decide) wd_902 dX6_film_65 ?_
      refine lv_bipush (v := 40) hx hb dX6_film_68 (by decide) ?_
      refine lv_iload_n hx hb dX6_film_70 rfl (lv_at hl 1 rfl) ?_
      refine lv_imul hx hb dX6_film_71 ?_
      refine lv_iload hx hb dX6_film_72 (lv_at hl 4 rfl) ?_
      refine lv_iadd hx hb dX6_film_74 ?_
      refine lv_iconst (v := 0) hx hb dX6_film_75 (by decide) ?_
      obtain ⟨gi1, h⟩ := gd_of h
      refine ia_st C hP hD hS (iL (by decide)) (by decide) gi1 dX6_film_76 (fun H locs hP hD hS => ?_)
      exact w_X6_film_77 C ih hP hD hS hl h
def b_X6_film_50 (N : Nat) (x1 : Int32) (x2 : Int32) (x3 : Int32) (M : Mem) : Option (Int32 × Mem) := (f_X6_keeps N M).bind fun M51 => b_X6_film_57 N x1 x2 x3 N (0 : Int32) M51
set_option maxHeartbeats 4000000 in
set_option maxRecDepth 100000 in
theorem w_X6_film_50 (C : CX p s m args meth c cX6_film 5 (some .int) RX6 D cy ad zz 100 21 A) {N : Nat} {M : Mem} {x1 : Int32} {x2 : Int32} {x3 : Int32} {rr : Int32} {M' : Mem} {H : Heap} {locs : List Loc} (hP : va_P D vwCl (pool cy ad 100 21 M) H) (hD : va_D A (pool cy ad 100 21 M)) (hS : va_S A s.heap H locs) {ls : Array Slot} (hl : lv_has ls 5 [(0, .ref (ad 100)), (1, .int x1), (2, .int x2), (3, .int x3)]) (h : b_X6_film_50 N x1 x2 x3 M = some (rr, M')) : W p l e ({ frames := 5, cells := 0, slots := 0, locals := 118 } : Room) s m args below meth c H locs 0 0 (MQ below (va_Qi (fun (x : Int32) (_ : Unit) => x = rr) (fun _ t => PA D cy ad 100 21 A M' t) A) args s 0 0 A) (F0 m 50 ls []) := by
  obtain ⟨hx, hb, hml, hown, hts, hr, hlk, hK, hN, hA, hX⟩ := id C
  unfold b_X6_film_50 at h
  refine lv_aload_n hx hb dX6_film_50 rfl (lv_at hl 0 rfl) ?_
  obtain ⟨M51, g51, h⟩ := bd_of h
  refine call_vV (As := []) (rest := []) C hP hD hS (c_X6_keeps g51) (iL (by decide)) ⟨6, _, _, ent_6 (by decide), rfl, rfl⟩ (gV wd_1104 wd_1106 wd_47 wd_75 wd_1107) ev_X6_keeps ⟨rfl, rfl⟩ ⟨Nat.le_of_ble_eq_true rfl, Nat.le_of_ble_eq_true rfl⟩ hl.1 rfl (Nat.le_of_ble_eq_true rfl) dX6_film_51 (fun H locs hP hD hS => ?_)
  refine lv_iconst (v := 0) hx hb dX6_film_54 (by decide) ?_
  refine lv_istore (lv' := [(4, .int (0 : Int32)), (0, .ref (ad 100)), (1, .int x1), (2, .int x2), (3, .int x3)]) hx hb dX6_film_55 hl (by decide) rfl (fun ls hl => ?_)
  exact w_X6_film_57 C N _ _ _ _ hP hD hS _ (lv_sub hl [1, 2, 3, 4, 0] rfl) h
def b_X6_film_43 (N : Nat) (x1 : Int32) (x2 : Int32) (x3 : Int32) (M : Mem) : Option (Int32 × Mem) := gd (inb x1 (len 112)) (b_X6_film_50 N x1 x2 x3 (sAI M 112 x1.toNatClampNeg x3))
set_option maxHeartbeats 4000000 in
set_option maxRecDepth 100000 in
theorem w_X6_film_43 (C : CX p s m args meth c cX6_film 5 (some .int) RX6 D cy ad zz 100 21 A) {N : Nat} {M : Mem} {x1 : Int32} {x2 : Int32} {x3 : Int32} {rr : Int32} {M' : Mem} {H : Heap} {locs : List Loc} (hP : va_P D vwCl (pool cy ad 100 21 M) H) (hD : va_D A (pool cy ad 100 21 M)) (hS : va_S A s.heap H locs) {ls : Array Slot} (hl : lv_has ls 5 [(0, .ref (ad 100)), (1, .int x1), (2, .int x2), (3, .int x3)]) (h : b_X6_film_43 N x1 x2 x3 M = some (rr, M')) : W p l e ({ frames := 5, cells := 0, slots := 0, locals := 118 } : Room) s m args below meth c H locs 0 0 (MQ below (va_Qi (fun (x : Int32) (_ : Unit) => x = rr) (fun _ t => PA D cy ad 100 21 A M' t) A) args s 0 0 A) (F0 m 43 ls []) := by
  obtain ⟨hx, hb, hml, hown, hts, hr, hlk, hK, hN, hA, hX⟩ := id C
  unfold b_X6_film_43 at h
  refine lv_aload_n hx hb dX6_film_43 rfl (lv_at hl 0 rfl) ?_
  refine gf_6_19 C hP (iL (by decide)) (by decide) wd_901 dX6_film_44 ?_
  refine lv_iload_n hx hb dX6_film_47 rfl (lv_at hl 1 rfl) ?_
  refine lv_iload_n hx hb dX6_film_48 rfl (lv_at hl 3 rfl) ?_
  obtain ⟨gi1, h⟩ := gd_of h
  refine ia_st C hP hD hS (iL (by decide)) (by decide) gi1 dX6_film_49 (fun H locs hP hD hS => ?_)
  exact w_X6_film_50 C hP hD hS hl h
def b_X6_film_0 (N : Nat) (x1 : Int32) (x2 : Int32) (x3 : Int32) (M : Mem) : Option (Int32 × Mem) := (f_X6_in x1 (0 : Int32) (3 : Int32) M).bind fun r3 => (if r3 = true then (f_X6_isOne x2 M).bind fun r14 => (if r14 = true then (f_X6_in x3 (0 : Int32) (20 : Int32) M).bind fun r27 => (if r27 = true then gd (inb x1 (len 111)) (b_X6_film_43 N x1 x2 x3 (sAI M 111 x1.toNatClampNeg (0 : Int32))) else some ((-7 : Int32), M)) else some ((-5 : Int32), M)) else some ((-2 : Int32), M))
set_option maxHeartbeats 4000000 in
set_option maxRecDepth 100000 in
theorem w_X6_film_0 (C : CX p s m args meth c cX6_film 5 (some .int) RX6 D cy ad zz 100 21 A) {N : Nat} {M : Mem} {x1 : Int32} {x2 : Int32} {x3 : Int32} {rr : Int32} {M' : Mem} {H : Heap} {locs : List Loc} (hP : va_P D vwCl (pool cy ad 100 21 M) H) (hD : va_D A (pool cy ad 100 21 M)) (hS : va_S A s.heap H locs) {ls : Array Slot} (hl : lv_has ls 5 [(0, .ref (ad 100)), (1, .int x1), (2, .int x2), (3, .int x3)]) (h : b_X6_film_0 N x1 x2 x3 M = some (rr, M')) : W p l e ({ frames := 5, cells := 0, slots := 0, locals := 118 } : Room) s m args below meth c H locs 0 0 (MQ below (va_Qi (fun (x : Int32) (_ : Unit) => x = rr) (fun _ t => PA D cy ad 100 21 A M' t) A) args s 0 0 A) (F0 m 0 ls []) := by
  obtain ⟨hx, hb, hml, hown, hts, hr, hlk, hK, hN, hA, hX⟩ := id C
  unfold b_X6_film_0 at h
  refine lv_iload_n hx hb dX6_film_0 rfl (lv_at hl 1 rfl) ?_
  refine lv_iconst (v := 0) hx hb dX6_film_1 (by decide) ?_
  refine lv_iconst (v := 3) hx hb dX6_film_2 (by decide) ?_
  obtain ⟨r3, g3, h⟩ := bd_of h
  refine call_iS (As := [.int x1, .int (0 : Int32), .int (3 : Int32)]) (rest := []) C hP hD hS (c_X6_in g3) (gS wd_843 wd_844 wd_75 wd_845) es_X6_in ⟨rfl, rfl⟩ ⟨Nat.le_of_ble_eq_true rfl, Nat.le_of_ble_eq_true rfl⟩ hl.1 rfl (Nat.le_of_ble_eq_true rfl) dX6_film_3 (fun H locs hP hD hS => ?_)
  refine lv_if_ne (tgt := 12) hx hb dX6_film_6 (by decide) (fun c6 => ?_) (fun c6 => ?_)
  · replace h := it_t (b2i_1 c6) h
    refine lv_aload_n hx hb dX6_film_12 rfl (lv_at hl 0 rfl) ?_
    refine lv_iload_n hx hb dX6_film_13 rfl (lv_at hl 2 rfl) ?_
    obtain ⟨r14, g14, h⟩ := bd_of h
    refine call_iV (As := [.int x2]) (rest := []) C hP hD hS (c_X6_isOne g14) (iL (by decide)) ⟨6, _, _, ent_6 (by decide), rfl, rfl⟩ (gV wd_1034 wd_1036 wd_39 wd_75 wd_1037) ev_X6_isOne ⟨rfl, rfl⟩ ⟨Nat.le_of_ble_eq_true rfl, Nat.le_of_ble_eq_true rfl⟩ hl.1 rfl (Nat.le_of_ble_eq_true rfl) dX6_film_14 (fun H locs hP hD hS => ?_)
    refine lv_if_ne (tgt := 23) hx hb dX6_film_17 (by decide) (fun c17 => ?_) (fun c17 => ?_)
    · replace h := it_t (b2i_1 c17) h
      refine lv_iload_n hx hb dX6_film_23 rfl (lv_at hl 3 rfl) ?_
      refine lv_iconst (v := 0) hx hb dX6_film_24 (by decide) ?_
      refine lv_bipush (v := 20) hx hb dX6_film_25 (by decide) ?_
      obtain ⟨r27, g27, h⟩ := bd_of h
      refine call_iS (As := [.int x3, .int (0 : Int32), .int (20 : Int32)]) (rest := []) C hP hD hS (c_X6_in g27) (gS wd_843 wd_844 wd_75 wd_845) es_X6_in ⟨rfl, rfl⟩ ⟨Nat.le_of_ble_eq_true rfl, Nat.le_of_ble_eq_true rfl⟩ hl.1 rfl (Nat.le_of_ble_eq_true rfl) dX6_film_27 (fun H locs hP hD hS => ?_)
      refine lv_if_ne (tgt := 36) hx hb dX6_film_30 (by decide) (fun c30 => ?_) (fun c30 => ?_)
      · replace h := it_t (b2i_1 c30) h
        refine lv_aload_n hx hb dX6_film_36 rfl (lv_at hl 0 rfl) ?_
        refine gf_6_18 C hP (iL (by decide)) (by decide) wd_900 dX6_film_37 ?_
        refine lv_iload_n hx hb dX6_film_40 rfl (lv_at hl 1 rfl) ?_
        refine lv_iconst (v := 0) hx hb dX6_film_41 (by decide) ?_
        obtain ⟨gi1, h⟩ := gd_of h
        refine ia_st C hP hD hS (iL (by decide)) (by decide) gi1 dX6_film_42 (fun H locs hP hD hS => ?_)
        exact w_X6_film_43 C hP hD hS hl h
      · replace h := it_f (b2i_n c30) h
        refine lv_bipush (v := -7) hx hb dX6_film_33 (by decide) ?_
        exact rt_i (r := (-7 : Int32)) C hP hD hS dX6_film_35 (rw_end h)
    · replace h := it_f (b2i_n c17) h
      refine lv_bipush (v := -5) hx hb dX6_film_20 (by decide) ?_
      exact rt_i (r := (-5 : Int32)) C hP hD hS dX6_film_22 (rw_end h)
  · replace h := it_f (b2i_n c6) h
    refine lv_bipush (v := -2) hx hb dX6_film_9 (by decide) ?_
    exact rt_i (r := (-2 : Int32)) C hP hD hS dX6_film_11 (rw_end h)
def f_X6_film (N : Nat) (x1 : Int32) (x2 : Int32) (x3 : Int32) (M : Mem) : Option (Int32 × Mem) := b_X6_film_0 N x1 x2 x3 M
theorem c_X6_film {l : Launch} {D : va_G} {cy : Nat → ClassId} {ad : Nat → Nat} {zz : (Nat → Nat) × (Nat → Nat)} {N : Nat} {x1 : Int32} {x2 : Int32} {x3 : Int32} {M : Mem} {rr : Int32} {M' : Mem} (h : f_X6_film N x1 x2 x3 M = some (rr, M')) : CTi l D cy ad zz 100 21 yX6_film (.code yX6_film cX6_film 5 (some .int) :: tb) ({ frames := 5, cells := 0, slots := 0, locals := 118 } : Room) [.ref (ad 100), .int x1, .int x2, .int x3] M rr M' := by
  intro sz
  refine CX.of (by decide +kernel) (fun p e s m args below meth c H ls C hP hD hS hl => ?_) (Nat.le_of_ble_eq_true rfl)
  exact w_X6_film_0 C hP hD hS hl h
theorem ev_X6_film : yX6_film.cls = RX6 ∧ yX6_film.cls ≠ "java/lang/invoke/MethodHandle" ∧ yX6_film.cls ≠ "java/lang/invoke/VarHandle" ∧ (parseMethodDescriptor yX6_film.desc).map (fun d => d.parameters.length) = some 3 := by decide +kernel
end
