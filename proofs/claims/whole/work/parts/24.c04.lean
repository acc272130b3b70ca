section
variable {p : Program} {l : Launch} {e : Env} {s : State} {m : MethodId} {args : Array Value} {below : List Frame} {meth : Method} {c : Code} {D : va_G} {cy : Nat → ClassId} {ad : Nat → Nat} {zz : (Nat → Nat) × (Nat → Nat)} {A : Nat → Prop}
def b_X5_turn_102 (N : Nat) (x1 : Int32) (x2 : Int32) (x3 : Int32) (k45 : Int32 → Int32 → Int32 → Mem → Option (Int32 × Mem)) (x4 : Int32) (x5 : Int32) (x6 : Int32) (M : Mem) : Option (Int32 × Mem) := k45 x4 x5 (x6 + (1 : Int32)) M
set_option maxHeartbeats 4000000 in
set_option maxRecDepth 100000 in
theorem w_X5_turn_102 (C : CX p s m args meth c cX5_turn 7 (some .int) RX5 D cy ad zz 0 82 A) {N : Nat} {M : Mem} {x1 : Int32} {x2 : Int32} {x3 : Int32} {k45 : Int32 → Int32 → Int32 → Mem → Option (Int32 × Mem)} {rr : Int32} {M' : Mem} (hk45 : ∀ (x4 : Int32), ∀ (x5 : Int32), ∀ (x6 : Int32), ∀ (M : Mem), ∀ (H : Heap) (locs : List Loc), va_P D vwCl (pool cy ad 0 82 M) H → va_D A (pool cy ad 0 82 M) → va_S A s.heap H locs → ∀ (ls : Array Slot), lv_has ls 7 [(0, .ref (ad 0)), (1, .int x1), (2, .int x2), (3, .int x3), (4, .int x4), (5, .int x5), (6, .int x6)] → k45 x4 x5 x6 M = some (rr, M') → W p l e ({ frames := 6, cells := 0, slots := 0, locals := 142 } : Room) s m args below meth c H locs 0 0 (MQ below (va_Qi (fun (x : Int32) (_ : Unit) => x = rr) (fun _ t => PA D cy ad 0 82 A M' t) A) args s 0 0 A) (F0 m 45 ls [])) {x4 : Int32} {x5 : Int32} {x6 : Int32} {H : Heap} {locs : List Loc} (hP : va_P D vwCl (pool cy ad 0 82 M) H) (hD : va_D A (pool cy ad 0 82 M)) (hS : va_S A s.heap H locs) {ls : Array Slot} (hl : lv_has ls 7 [(0, .ref (ad 0)), (1, .int x1), (2, .int x2), (3, .int x3), (4, .int x4), (5, .int x5), (6, .int x6)]) (h : b_X5_turn_102 N x1 x2 x3 k45 x4 x5 x6 M = some (rr, M')) : W p l e ({ frames := 6, cells := 0, slots := 0, locals := 142 } : Room) s m args below meth c H locs 0 0 (MQ below (va_Qi (fun (x : Int32) (_ : Unit) => x = rr) (fun _ t => PA D cy ad 0 82 A M' t) A) args s 0 0 A) (F0 m 102 ls []) := by
  obtain ⟨hx, hb, hml, hown, hts, hr, hlk, hK, hN, hA, hX⟩ := id C
  unfold b_X5_turn_102 at h
  refine lv_iinc (v := (x6 + (1 : Int32))) (lv' := [(6, .int (x6 + (1 : Int32))), (0, .ref (ad 0)), (1, .int x1), (2, .int x2), (3, .int x3), (4, .int x4), (5, .int x5)]) hx hb dX5_turn_102 hl (k := 6) rfl rfl (by decide) rfl (fun ls hl => ?_)
  refine lv_goto (tgt := 45) hx hb dX5_turn_105 (by decide) ?_
  exact hk45 _ _ _ _ _ _ hP hD hS _ (lv_sub hl [1, 2, 3, 4, 5, 6, 0] rfl) h
def b_X5_turn_89 (N : Nat) (x1 : Int32) (x2 : Int32) (x3 : Int32) (k45 : Int32 → Int32 → Int32 → Mem → Option (Int32 × Mem)) (x6 : Int32) (M : Mem) : Option (Int32 × Mem) := b_X5_turn_102 N x1 x2 x3 k45 x6 (FI M 4 5) x6 M
set_option maxHeartbeats 4000000 in
set_option maxRecDepth 100000 in
theorem w_X5_turn_89 (C : CX p s m args meth c cX5_turn 7 (some .int) RX5 D cy ad zz 0 82 A) {N : Nat} {M : Mem} {x1 : Int32} {x2 : Int32} {x3 : Int32} {k45 : Int32 → Int32 → Int32 → Mem → Option (Int32 × Mem)} {rr : Int32} {M' : Mem} (hk45 : ∀ (x4 : Int32), ∀ (x5 : Int32), ∀ (x6 : Int32), ∀ (M : Mem), ∀ (H : Heap) (locs : List Loc), va_P D vwCl (pool cy ad 0 82 M) H → va_D A (pool cy ad 0 82 M) → va_S A s.heap H locs → ∀ (ls : Array Slot), lv_has ls 7 [(0, .ref (ad 0)), (1, .int x1), (2, .int x2), (3, .int x3), (4, .int x4), (5, .int x5), (6, .int x6)] → k45 x4 x5 x6 M = some (rr, M') → W p l e ({ frames := 6, cells := 0, slots := 0, locals := 142 } : Room) s m args below meth c H locs 0 0 (MQ below (va_Qi (fun (x : Int32) (_ : Unit) => x = rr) (fun _ t => PA D cy ad 0 82 A M' t) A) args s 0 0 A) (F0 m 45 ls [])) {x6 : Int32} {H : Heap} {locs : List Loc} (hP : va_P D vwCl (pool cy ad 0 82 M) H) (hD : va_D A (pool cy ad 0 82 M)) (hS : va_S A s.heap H locs) {ls : Array Slot} (hl : lv_has ls 7 [(0, .ref (ad 0)), (1, .int x1), (2, .int x2), (3, .int x3), (6, .int x6)]) (h : b_X5_turn_89 N x1 x2 x3 k45 x6 M = some (rr, M')) : W p l e ({ frames := 6, cells := 0, slots := 0, locals := 142 } : Room) s m args below meth c H locs 0 0 (MQ below (va_Qi (fun (x : Int32) (_ : Unit) => x = rr) (fun _ t => PA D cy ad 0 82 A M' t) A) args s 0 0 A) (F0 m 89 ls []) := by
  obtain ⟨hx, hb, hml, hown, hts, hr, hlk, hK, hN, hA, hX⟩ := id C
  unfold b_X5_turn_89 at h
  refine lv_iload hx hb dX5_turn_89 (lv_at hl 4 rfl) ?_
  refine lv_istore (lv' := [(4, .int x6), (0, .ref (ad 0)), (1, .int x1), (2, .int x2), (3, .int x3), (6, .int x6)]) hx hb dX5_turn_91 hl (by decide) rfl (fun ls hl => ?_)
  refine lv_aload_n hx hb dX5_turn_93 rfl (lv_at hl 1 rfl) ?_
  refine gf_5_3 C hP (iL (by decide)) (by decide) wd_377 dX5_turn_94 ?_
  refine gf_2_5 C hP (iL (by decide)) (by decide) wd_112 dX5_turn_97 ?_
  refine lv_istore (lv' := [(5, .int (FI M 4 5)), (4, .int x6), (0, .ref (ad 0)), (1, .int x1), (2, .int x2), (3, .int x3), (6, .int x6)]) hx hb dX5_turn_100 hl (by decide) rfl (fun ls hl => ?_)
  exact w_X5_turn_102 C hk45 hP hD hS (lv_sub hl [2, 3, 4, 5, 1, 0, 6] rfl) h
def b_X5_turn_66 (N : Nat) (x1 : Int32) (x2 : Int32) (x3 : Int32) (k45 : Int32 → Int32 → Int32 → Mem → Option (Int32 × Mem)) (x4 : Int32) (x5 : Int32) (x6 : Int32) (M : Mem) : Option (Int32 × Mem) := (f_X5_walkNights N x2 M).bind fun M68 => (if x4 = (-1 : Int32) then b_X5_turn_89 N x1 x2 x3 k45 x6 M68 else (if x5 ≤ (FI M68 4 5) then b_X5_turn_102 N x1 x2 x3 k45 x4 x5 x6 M68 else b_X5_turn_89 N x1 x2 x3 k45 x6 M68))
set_option maxHeartbeats 4000000 in
set_option maxRecDepth 100000 in
theorem w_X5_turn_66 (C : CX p s m args meth c cX5_turn 7 (some .int) RX5 D cy ad zz 0 82 A) {N : Nat} {M : Mem} {x1 : Int32} {x2 : Int32} {x3 : Int32} {k45 : Int32 → Int32 → Int32 → Mem → Option (Int32 × Mem)} {rr : Int32} {M' : Mem} (hk45 : ∀ (x4 : Int32), ∀ (x5 : Int32), ∀ (x6 : Int32), ∀ (M : Mem), ∀ (H : Heap) (locs : List Loc), va_P D vwCl (pool cy ad 0 82 M) H → va_D A (pool cy ad 0 82 M) → va_S A s.heap H locs → ∀ (ls : Array Slot), lv_has ls 7 [(0, .ref (ad 0)), (1, .int x1), (2, .int x2), (3, .int x3), (4, .int x4), (5, .int x5), (6, .int x6)] → k45 x4 x5 x6 M = some (rr, M') → W p l e ({ frames := 6, cells := 0, slots := 0, locals := 142 } : Room) s m args below meth c H locs 0 0 (MQ below (va_Qi (fun (x : Int32) (_ : Unit) => x = rr) (fun _ t => PA D cy ad 0 82 A M' t) A) args s 0 0 A) (F0 m 45 ls [])) {x4 : Int32} {x5 : Int32} {x6 : Int32} {H : Heap} {locs : List Loc} (hP : va_P D vwCl (pool cy ad 0 82 M) H) (hD : va_D A (pool cy ad 0 82 M)) (hS : va_S A s.heap H locs) {ls : Array Slot} (hl : lv_has ls 7 [(0, .ref (ad 0)), (1, .int x1), (2, .int x2), (3, .int x3), (4, .int x4), (5, .int x5), (6, .int x6)]) (h : b_X5_turn_66 N x1 x2 x3 k45 x4 x5 x6 M = some (rr, M')) : W p l e ({ frames := 6, cells := 0, slots := 0, locals := 142 } : Room) s m args below meth c H locs 0 0 (MQ below (va_Qi (fun (x : Int32) (_ : Unit) => x = rr) (fun _ t => PA D cy ad 0 82 A M' t) A) args s 0 0 A) (F0 m 66 ls []) := by
  obtain ⟨hx, hb, hml, hown, hts, hr, hlk, hK, hN, hA, hX⟩ := id C
  unfold b_X5_turn_66 at h
  refine lv_aload_n hx hb dX5_turn_66 rfl (lv_at hl 0 rfl) ?_
  refine lv_iload_n hx hb dX5_turn_67 rfl (lv_at hl 2 rfl) ?_
  obtain ⟨M68, g68, h⟩ := bd_of h
  refine call_vV (As := [.int x2]) (rest := []) C hP hD hS (c_X5_walkNights g68) (iL (by decide)) ⟨5, _, _, ent_5 (by decide), rfl, rfl⟩ (gV wd_653 wd_655 wd_22 wd_64 wd_656) ev_X5_walkNights ⟨rfl, rfl⟩ ⟨Nat.le_of_ble_eq_true rfl, Nat.le_of_ble_eq_true rfl⟩ hl.1 rfl (Nat.le_of_ble_eq_true rfl) dX5_turn_68 (fun H locs hP hD hS => ?_)
  refine lv_iload hx hb dX5_turn_71 (lv_at hl 4 rfl) ?_
  refine lv_iconst (v := -1) hx hb dX5_turn_73 (by decide) ?_
  refine lv_icmp_eq (tgt := 89) hx hb dX5_turn_74 (by decide) (fun c74 => ?_) (fun c74 => ?_)
  · replace h := it_t c74 h
    exact w_X5_turn_89 C hk45 hP hD hS (lv_sub hl [0, 1, 2, 3, 6] rfl) h
  · replace h := it_f c74 h
    refine lv_aload_n hx hb dX5_turn_77 rfl (lv_at hl 0 rfl) ?_
    refine gf_5_3 C hP (iL (by decide)) (by decide) wd_377 dX5_turn_78 ?_
    refine gf_2_5 C hP (iL (by decide)) (by decide) wd_112 dX5_turn_81 ?_
    refine lv_iload hx hb dX5_turn_84 (lv_at hl 5 rfl) ?_
    refine lv_icmp_ge (tgt := 102) hx hb dX5_turn_86 (by decide) (fun c86 => ?_) (fun c86 => ?_)
    · replace h := it_t c86 h
      exact w_X5_turn_102 C hk45 hP hD hS hl h
    · replace h := it_f c86 h
      exact w_X5_turn_89 C hk45 hP hD hS (lv_sub hl [0, 1, 2, 3, 6] rfl) h
def b_X5_turn_45 (N : Nat) (x1 : Int32) (x2 : Int32) (x3 : Int32) : Nat → Int32 → Int32 → Int32 → Mem → Option (Int32 × Mem)
  | 0, _, _, _, _ => none
  | fu + 1, x4, x5, x6, M => (if (4 : Int32) ≤ x6 then (if x3 = 0 then some (x4, M) else some (x5, M)) else bd2 (f_X5_beginThought x1 M) fun r53 M53 => b_X5_turn_66 N x1 x2 x3 (b_X5_turn_45 N x1 x2 x3 fu) x4 x5 x6 (sFI M53 4 3 x6))
set_option maxHeartbeats 4000000 in
set_option maxRecDepth 100000 in
theorem w_X5_turn_45 (C : CX p s m args meth c cX5_turn 7 (some .int) RX5 D cy ad zz 0 82 A) {N : Nat} {x1 : Int32} {x2 : Int32} {x3 : Int32} {rr : Int32} {M' : Mem}  : ∀ (fu : Nat), ∀ (x4 : Int32), ∀ (x5 : Int32), ∀ (x6 : Int32), ∀ (M : Mem), ∀ (H : Heap) (locs : List Loc), va_P D vwCl (pool cy ad 0 82 M) H → va_D A (pool cy ad 0 82 M) → va_S A s.heap H locs → ∀ (ls : Array Slot), lv_has ls 7 [(0, .ref (ad 0)), (1, .int x1), (2, .int x2), (3, .int x3), (4, .int x4), (5, .int x5), (6, .int x6)] → b_X5_turn_45 N x1 x2 x3 fu x4 x5 x6 M = some (rr, M') → W p l e ({ frames := 6, cells := 0, slots := 0, locals := 142 } : Room) s m args below meth c H locs 0 0 (MQ below (va_Qi (fun (x : Int32) (_ : Unit) => x = rr) (fun _ t => PA D cy ad 0 82 A M' t) A) args s 0 0 A) (F0 m 45 ls []) := by
  obtain ⟨hx, hb, hml, hown, hts, hr, hlk, hK, hN, hA, hX⟩ := id C
  intro fu
  induction fu with
  | zero =>
    intro x4 x5 x6 M H locs hP hD hS ls hl h
    exact no_some (show none = some _ from h)
  | succ fu ih =>
    intro x4 x5 x6 M H locs hP hD hS ls hl h
    rw [b_X5_turn_45] at h
    refine lv_iload hx hb dX5_turn_45 (lv_at hl 6 rfl) ?_
    refine lv_iconst (v := 4) hx hb dX5_turn_47 (by decide) ?_
    refine lv_icmp_ge (tgt := 108) hx hb dX5_turn_48 (by decide) (fun c48 => ?_) (fun c48 => ?_)
    · replace h := it_t c48 h
      refine lv_iload_n hx hb dX5_turn_108 rfl (lv_at hl 3 rfl) ?_
      refine lv_if_ne (tgt := 117) hx hb dX5_turn_109 (by decide) (fun c109 => ?_) (fun c109 => ?_)
      · replace h := it_f c109 h
        refine lv_iload hx hb dX5_turn_117 (lv_at hl 5 rfl) ?_
        exact rt_i (r := x5) C hP hD hS dX5_turn_119 (rw_end h)
      · replace h := it_t c109 h
        refine lv_iload hx hb dX5_turn_112 (lv_at hl 4 rfl) ?_
        refine lv_goto (tgt := 119) hx hb dX5_turn_114 (by decide) ?_
        exact rt_i (r := x4) C hP hD hS dX5_turn_119 (rw_end h)
    · replace h := it_f c48 h
      refine lv_aload_n hx hb dX5_turn_51 rfl (lv_at hl 0 rfl) ?_
      refine lv_iload_n hx hb dX5_turn_52 rfl (lv_at hl 1 rfl) ?_
      obtain ⟨r53, M53, g53, h⟩ := bd2_of h
      refine call_iV (As := [.int x1]) (rest := []) C hP hD hS (c_X5_beginThought g53) (iL (by decide)) ⟨5, _, _, ent_5 (by decide), rfl, rfl⟩ (gV wd_648 wd_650 wd_21 wd_64 wd_651) ev_X5_beginThought ⟨rfl, rfl⟩ ⟨Nat.le_of_ble_eq_true rfl, Nat.le_of_ble_eq_true rfl⟩ hl.1 rfl (Nat.le_of_ble_eq_true rfl) dX5_turn_53 (fun H locs hP hD hS => ?_)
      refine lv_pop hx hb dX5_turn_56 rfl ?_
      refine lv_aload_n hx hb dX5_turn_57 rfl (lv_at hl 0 rfl) ?_
      refine gf_5_3 C hP (iL (by decide)) (by decide) wd_377 dX5_turn_58 ?_
      refine lv_iload hx hb dX5_turn_61 (lv_at hl 6 rfl) ?_
      refine pf_2_3 C hP hD hS (iL (by decide)) (by decide) wd_108 dX5_turn_63 (fun H locs hP hD hS => ?_)
      exact w_X5_turn_66 C ih hP hD hS hl h
def b_X5_turn_36 (N : Nat) (x1 : Int32) (x2 : Int32) (x3 : Int32) (M : Mem) : Option (Int32 × Mem) := b_X5_turn_45 N x1 x2 x3 N (-1 : Int32) (0 : Int32) (0 : Int32) M
set_option maxHeartbeats 4000000 in
set_option maxRecDepth 100000 in
theorem w_X5_turn_36 (C : CX p s m args meth c cX5_turn 7 (some .int) RX5 D cy ad zz 0 82 A) {N : Nat} {M : Mem} {x1 : Int32} {x2 : Int32} {x3 : Int32} {rr : Int32} {M' : Mem} {H : Heap} {locs : List Loc} (hP : va_P D vwCl (pool cy ad 0 82 M) H) (hD : va_D A (pool cy ad 0 82 M)) (hS : va_S A s.heap H locs) {ls : Array Slot} (hl : lv_has ls 7 [(0, .ref (ad 0)), (1, .int x1), (2, .int x2), (3, .int x3)]) (h : b_X5_turn_36 N x1 x2 x3 M = some (rr, M')) : W p l e ({ frames := 6, cells := 0, slots := 0, locals := 142 } : Room) s m args below meth c H locs 0 0 (MQ below (va_Qi (fun (x : Int32) (_ : Unit) => x = rr) (fun _ t => PA D cy ad 0 82 A M' t) A) args s 0 0 A) (F0 m 36 ls []) := by
  obtain ⟨hx, hb, hml, hown, hts, hr, hlk, hK, hN, hA, hX⟩ := id C
  unfold b_X5_turn_36 at h
  refine lv_iconst (v := -1) hx hb dX5_turn_36 (by decide) ?_
  refine lv_istore (lv' := [(4, .int (-1 : Int32)), (0, .ref (ad 0)), (1, .int x1), (2, .int x2), (3, .int x3)]) hx hb dX5_turn_37 hl (by decide) rfl (fun ls hl => ?_)
  refine lv_iconst (v := 0) hx hb dX5_turn_39 (by decide) ?_
  refine lv_istore (lv' := [(5, .int (0 : Int32)), (4, .int (-1 : Int32)), (0, .ref (ad 0)), (1, .int x1), (2, .int x2), (3, .int x3)]) hx hb dX5_turn_40 hl (by decide) rfl (fun ls hl => ?_)
  refine lv_iconst (v := 0) hx hb dX5_turn_42 (by decide) ?_
  refine lv_istore (lv' := [(6, .int (0 : Int32)), (5, .int (0 : Int32)), (4, .int (-1 : Int32)), (0, .ref (ad 0)), (1, .int x1), (2, .int x2), (3, .int x3)]) hx hb dX5_turn_43 hl (by decide) rfl (fun ls hl => ?_)
  exact w_X5_turn_45 C N _ _ _ _ _ _ hP hD hS _ (lv_sub hl [3, 4, 5, 6, 2, 1, 0] rfl) h
def b_X5_turn_0 (N : Nat) (x1 : Int32) (x2 : Int32) (x3 : Int32) (M : Mem) : Option (Int32 × Mem) := (f_X4_numbered 1 x1 M).bind fun r5 => (oc r5 (some ((-5 : Int32), M)) (fun (j8 : Nat) => (if x2 < 0 then some ((-7 : Int32), M) else (if (40 : Int32) < x2 then some ((-7 : Int32), M) else (if x3 = 0 then b_X5_turn_36 N x1 x2 x3 M else (if x3 = (1 : Int32) then b_X5_turn_36 N x1 x2 x3 M else some ((-7 : Int32), M)))))))
set_option maxHeartbeats 4000000 in
set_option maxRecDepth 100000 in
theorem w_X5_turn_0 (C : CX p s m args meth c cX5_turn 7 (some .int) RX5 D cy ad zz 0 82 A) {N : Nat} {M : Mem} {x1 : Int32} {x2 : Int32} {x3 : Int32} {rr : Int32} {M' : Mem} {H : Heap} {locs : List Loc} (hP : va_P D vwCl (pool cy ad 0 82 M) H) (hD : va_D A (pool cy ad 0 82 M)) (hS : va_S A s.heap H locs) {ls : Array Slot} (hl : lv_has ls 7 [(0, .ref (ad 0)), (1, .int x1), (2, .int x2), (3, .int x3)]) (h : b_X5_turn_0 N x1 x2 x3 M = some (rr, M')) : W p l e ({ frames := 6, cells := 0, slots := 0, locals := 142 } : Room) s m args below meth c H locs 0 0 (MQ below (va_Qi (fun (x : Int32) (_ : Unit) => x = rr) (fun _ t => PA D cy ad 0 82 A M' t) A) args s 0 0 A) (F0 m 0 ls []) := by
  obtain ⟨hx, hb, hml, hown, hts, hr, hlk, hK, hN, hA, hX⟩ := id C
  unfold b_X5_turn_0 at h
  refine lv_aload_n hx hb dX5_turn_0 rfl (lv_at hl 0 rfl) ?_
  refine gf_5_0 C hP (iL (by decide)) (by decide) wd_374 dX5_turn_1 ?_
  refine lv_iload_n hx hb dX5_turn_4 rfl (lv_at hl 1 rfl) ?_
  obtain ⟨r5, g5, h⟩ := bd_of h
  refine call_qV (As := [.int x1]) (rest := []) C hP hD hS (c_X4_numbered (by decide) g5) (iL (by decide)) ⟨4, _, _, ent_4 (by decide), rfl, rfl⟩ (gV wd_455 wd_456 wd_457 wd_65 wd_458) ev_X4_numbered ⟨rfl, rfl⟩ ⟨Nat.le_of_ble_eq_true rfl, Nat.le_of_ble_eq_true rfl⟩ hl.1 rfl (Nat.le_of_ble_eq_true rfl) dX5_turn_5 (fun H locs hP hD hS => ?_)
  cases r5 with
  | none =>
    replace h := oc_n h
    have hl : lv_has ls 7 [(0, .ref (ad 0)), (1, .int x1), (2, .int x2), (3, .int x3)] := hl
    refine W.eq (g2 := F0 m 8 ls [.null]) rfl ?_
    refine lv_ifnonnullN hx hb dX5_turn_8 ?_
    refine lv_bipush (v := -5) hx hb dX5_turn_11 (by decide) ?_
    exact rt_i (r := (-5 : Int32)) C hP hD hS dX5_turn_13 (rw_end h)
  | some j8 =>
    replace h := oc_s h
    have hl : lv_has ls 7 [(0, .ref (ad 0)), (1, .int x1), (2, .int x2), (3, .int x3)] := hl
    refine W.eq (g2 := F0 m 8 ls [.ref (ad j8)]) rfl ?_
    refine lv_ifnonnull (tgt := 14) hx hb dX5_turn_8 (by decide) ?_
    refine lv_iload_n hx hb dX5_turn_14 rfl (lv_at hl 2 rfl) ?_
    refine lv_if_lt (tgt := 33) hx hb dX5_turn_15 (by decide) (fun c15 => ?_) (fun c15 => ?_)
    · replace h := it_t c15 h
      refine lv_bipush (v := -7) hx hb dX5_turn_33 (by decide) ?_
      exact rt_i (r := (-7 : Int32)) C hP hD hS dX5_turn_35 (rw_end h)
    · replace h := it_f c15 h
      refine lv_iload_n hx hb dX5_turn_18 rfl (lv_at hl 2 rfl) ?_
      refine lv_bipush (v := 40) hx hb dX5_turn_19 (by decide) ?_
      refine lv_icmp_gt (tgt := 33) hx hb dX5_turn_21 (by decide) (fun c21 => ?_) (fun c21 => ?_)
      · replace h := it_t c21 h
        refine lv_bipush (v := -7) hx hb dX5_turn_33 (by decide) ?_
        exact rt_i (r := (-7 : Int32)) C hP hD hS dX5_turn_35 (rw_end h)
      · replace h := it_f c21 h
        refine lv_iload_n hx hb dX5_turn_24 rfl (lv_at hl 3 rfl) ?_
        refine lv_if_eq (tgt := 36) hx hb dX5_turn_25 (by decide) (fun c25 => ?_) (fun c25 => ?_)
        · replace h := it_t c25 h
          exact w_X5_turn_36 C hP hD hS hl h
        · replace h := it_f c25 h
          refine lv_iload_n hx hb dX5_turn_28 rfl (lv_at hl 3 rfl) ?_
          refine lv_iconst (v := 1) hx hb dX5_turn_29 (by decide) ?_
          refine lv_icmp_eq (tgt := 36) hx hb dX5_turn_30 (by decide) (fun c30 => ?_) (fun c30 => ?_)
          · replace h := it_t c30 h
            exact w_X5_turn_36 C hP hD hS hl h
          · replace h := it_f c30 h
            refine lv_bipush (v := -7) hx hb dX5_turn_33 (by decide) ?_
            exact rt_i (r := (-7 : Int32)) C hP hD hS dX5_turn_35 (rw_end h)
def f_X5_turn (N : Nat) (x1 : Int32) (x2 : Int32) (x3 : Int32) (M : Mem) : Option (Int32 × Mem) := b_X5_turn_0 N x1 x2 x3 M
theorem c_X5_turn {l : Launch} {D : va_G} {cy : Nat → ClassId} {ad : Nat → Nat} {zz : (Nat → Nat) × (Nat → Nat)} {N : Nat} {x1 : Int32} {x2 : Int32} {x3 : Int32} {M : Mem} {rr : Int32} {M' : Mem} (h : f_X5_turn N x1 x2 x3 M = some (rr, M')) : CTi l D cy ad zz 0 82 yX5_turn (.code yX5_turn cX5_turn 7 (some .int) :: tb) ({ frames := 6, cells := 0, slots := 0, locals := 142 } : Room) [.ref (ad 0), .int x1, .int x2, .int x3] M rr M' := by
  intro sz
  refine CX.of (by decide +kernel) (fun p e s m args below meth c H ls C hP hD hS hl => ?_) (Nat.le_of_ble_eq_true rfl)
  exact w_X5_turn_0 C hP hD hS hl h
theorem ev_X5_turn : yX5_turn.cls = RX5 ∧ yX5_turn.cls ≠ "java/lang/invoke/MethodHandle" ∧ yX5_turn.cls ≠ "java/lang/invoke/VarHandle" ∧ (parseMethodDescriptor yX5_turn.desc).map (fun d => d.parameters.length) = some 3 := by decide +kernel
def b_X5_lowest_44 (N : Nat) (M : Mem) (y0 : Int64) (y2 : Int64) (x4 : Int32) (y5 : Int64) : Option (Int64) := (if x4 = 0 then gd (decide (¬ (if y5 < (1 : Int64) then (1 : Int64) else y5) = 0)) (some (y0 / (if y5 < (1 : Int64) then (1 : Int64) else y5))) else gd (decide (¬ (if y5 < (1 : Int64) then (1 : Int64) else y5) = 0)) (some (y2 / (if y5 < (1 : Int64) then (1 : Int64) else y5))))
set_option maxHeartbeats 4000000 in
set_option maxRecDepth 100000 in
theorem w_X5_lowest_44 (C : CX p s m args meth c cX5_lowest 12 (some .long) RX5 D cy ad zz 0 82 A) {N : Nat} {M : Mem} {y0 : Int64} {y2 : Int64} {x4 : Int32} {rr : Int64} {y5 : Int64} {H : Heap} {locs : List Loc} (hP : va_P D vwCl (pool cy ad 0 82 M) H) (hD : va_D A (pool cy ad 0 82 M)) (hS : va_S A s.heap H locs) {ls : Array Slot} (hl : lv_has ls 12 [(0, .long y0), (2, .long y2), (4, .int x4), (5, .long y5)]) (h : b_X5_lowest_44 N M y0 y2 x4 y5 = some rr) : W p l e ({ frames := 1, cells := 0, slots := 0, locals := 21 } : Room) s m args below meth c H locs 0 0 (MQ below (va_Ql (fun (x : Int64) (_ : Unit) => x = rr) (fun _ t => PA D cy ad 0 82 A M t) A) args s 0 0 A) (F0 m 44 ls []) := by
  obtain ⟨hx, hb, hml, hown, hts, hr, hlk, hK, hN, hA, hX⟩ := id C
  unfold b_X5_lowest_44 at h
  refine lv_lconst (v := 1) hx hb dX5_lowest_44 (by decide) ?_
  refine lv_lload hx hb dX5_lowest_45 (lv_at hl 3 rfl) ?_
  refine va_mmax_long hx hb (hml.trans hl.1.symm) hown (hts _ wd_714) (hts _ wd_715) (hts _ wd_70) (hts _ wd_716) (Nat.le_of_ble_eq_true rfl) (Nat.le_of_ble_eq_true rfl) (Nat.zero_le _) (Nat.zero_le _) dX5_lowest_47 ?_
  refine lv_lstore (lv' := [(9, .long (if y5 < (1 : Int64) then (1 : Int64) else y5)), (0, .long y0), (2, .long y2), (4, .int x4), (5, .long y5)]) hx hb dX5_lowest_50 hl (by decide) rfl (fun ls hl => ?_)
  refine lv_iload hx hb dX5_lowest_52 (lv_at hl 3 rfl) ?_
  refine lv_if_ne (tgt := 64) hx hb dX5_lowest_54 (by decide) (fun c54 => ?_) (fun c54 => ?_)
  · replace h := it_f c54 h
    refine lv_lload_n hx hb dX5_lowest_64 rfl (lv_at hl 2 rfl) ?_
    refine lv_lload hx hb dX5_lowest_65 (lv_at hl 0 rfl) ?_
    obtain ⟨gz1, h⟩ := gd_of h
    refine lv_ldiv hx hb dX5_lowest_67 (of_decide_eq_true gz1) ?_
    exact rt_l (r := (y2 / (if y5 < (1 : Int64) then (1 : Int64) else y5))) C hP hD hS dX5_lowest_68 ⟨Option.some.inj h, rfl⟩
  · replace h := it_t c54 h
    refine lv_lload_n hx hb dX5_lowest_57 rfl (lv_at hl 1 rfl) ?_
    refine lv_lload hx hb dX5_lowest_58 (lv_at hl 0 rfl) ?_
    obtain ⟨gz2, h⟩ := gd_of h
    refine lv_ldiv hx hb dX5_lowest_60 (of_decide_eq_true gz2) ?_
    refine lv_goto (tgt := 68) hx hb dX5_lowest_61 (by decide) ?_
    exact rt_l (r := (y0 / (if y5 < (1 : Int64) then (1 : Int64) else y5))) C hP hD hS dX5_lowest_68 ⟨Option.some.inj h, rfl⟩
def b_X5_lowest_9 (N : Nat) (M : Mem) (y0 : Int64) (y2 : Int64) (x4 : Int32) : Nat → Int64 → Int64 → Int32 → Option (Int64)
  | 0, _, _, _ => none
  | fu + 1, y5, y7, x9 => (if (64 : Int32) ≤ x9 then b_X5_lowest_44 N M y0 y2 x4 y5 else (if (lg_cmp y7 (0 : Int64)) ≤ 0 then b_X5_lowest_44 N M y0 y2 x4 y5 else gd (decide (¬ y7 = 0)) (b_X5_lowest_9 N M y0 y2 x4 fu y7 (y5 - y5 / y7 * y7) (x9 + (1 : Int32)))))
set_option maxHeartbeats 4000000 in
set_option maxRecDepth 100000 in
theorem w_X5_lowest_9 (C : CX p s m args meth c cX5_lowest 12 (some .long) RX5 D cy ad zz 0 82 A) {N : Nat} {M : Mem} {y0 : Int64} {y2 : Int64} {x4 : Int32} {rr : Int64}  : ∀ (fu : Nat), ∀ (y5 : Int64), ∀ (y7 : Int64), ∀ (x9 : Int32), ∀ (H : Heap) (locs : List Loc), va_P D vwCl (pool cy ad 0 82 M) H → va_D A (pool cy ad 0 82 M) → va_S A s.heap H locs → ∀ (ls : Array Slot), lv_has ls 12 [(0, .long y0), (2, .long y2), (4, .int x4), (5, .long y5), (7, .long y7), (9, .int x9)] → b_X5_lowest_9 N M y0 y2 x4 fu y5 y7 x9 = some rr → W p l e ({ frames := 1, cells := 0, slots := 0, locals := 21 } : Room) s m args below meth c H locs 0 0 (MQ below (va_Ql (fun (x : Int64) (_ : Unit) => x = rr) (fun _ t => PA D cy ad 0 82 A M t) A) args s 0 0 A) (F0 m 9 ls []) := by
  obtain ⟨hx, hb, hml, hown, hts, hr, hlk, hK, hN, hA, hX⟩ := id C
  intro fu
  induction fu with
  | zero =>
    intro y5 y7 x9 H locs hP hD hS ls hl h
    exact no_some (show none = some _ from h)
  | succ fu ih =>
    intro y5 y7 x9 H locs hP hD hS ls hl h
    rw [b_X5_lowest_9] at h
    refine lv_iload hx hb dX5_lowest_9 (lv_at hl 5 rfl) ?_
    refine lv_bipush (v := 64) hx hb dX5_lowest_11 (by decide) ?_
    refine lv_icmp_ge (tgt := 44) hx hb dX5_lowest_13 (by decide) (fun c13 => ?_) (fun c13 => ?_)
    · replace h := it_t c13 h
      exact w_X5_lowest_44 C hP hD hS (lv_sub hl [0, 1, 2, 3] rfl) h
    · replace h := it_f c13 h
      refine lv_lload hx hb dX5_lowest_16 (lv_at hl 4 rfl) ?_
      refine lv_lconst (v := 0) hx hb dX5_lowest_18 (by decide) ?_
      refine W.lcmp hx hb dX5_lowest_19 ?_
      refine lv_if_le (tgt := 44) hx hb dX5_lowest_20 (by decide) (fun c20 => ?_) (fun c20 => ?_)
      · replace h := it_t c20 h
        exact w_X5_lowest_44 C hP hD hS (lv_sub hl [0, 1, 2, 3] rfl) h
      · replace h := it_f c20 h
        refine lv_lload hx hb dX5_lowest_23 (lv_at hl 3 rfl) ?_
        refine lv_lload hx hb dX5_lowest_25 (lv_at hl 4 rfl) ?_
        obtain ⟨gz1, h⟩ := gd_of h
        refine lv_lrem hx hb dX5_lowest_27 (of_decide_eq_true gz1) ?_
        refine lv_lstore (lv' := [(10, .long (y5 - y5 / y7 * y7)), (0, .long y0), (2, .long y2), (4, .int x4), (5, .long y5), (7, .long y7), (9, .int x9)]) hx hb dX5_lowest_28 hl (by decide) rfl (fun ls hl => ?_)
        refine lv_lload hx hb dX5_lowest_30 (lv_at hl 5 rfl) ?_
        refine lv_lstore (lv' := [(5, .long y7), (10, .long (y5 - y5 / y7 * y7)), (0, .long y0), (2, .long y2), (4, .int x4), (7, .long y7), (9, .int x9)]) hx hb dX5_lowest_32 hl (by decide) rfl (fun ls hl => ?_)
        refine lv_lload hx hb dX5_lowest_34 (lv_at hl 1 rfl) ?_
        refine lv_lstore (lv' := [(7, .long (y5 - y5 / y7 * y7)), (5, .long y7), (10, .long (y5 - y5 / y7 * y7)), (0, .long y0), (2, .long y2), (4, .int x4), (9, .int x9)]) hx hb dX5_lowest_36 hl (by decide) rfl (fun ls hl => ?_)
        refine lv_iinc (v := (x9 + (1 : Int32))) (lv' := [(9, .int (x9 + (1 : Int32))), (7, .long (y5 - y5 / y7 * y7)), (5, .long y7), (10, .long (y5 - y5 / y7 * y7)), (0, .long y0), (2, .long y2), (4, .int x4)]) hx hb dX5_lowest_38 hl (k := 6) rfl rfl (by decide) rfl (fun ls hl => ?_)
        refine lv_goto (tgt := 9) hx hb dX5_lowest_41 (by decide) ?_
        exact ih _ _ _ _ _ hP hD hS _ (lv_sub hl [4, 5, 6, 2, 1, 0] rfl) h
def b_X5_lowest_0 (N : Nat) (M : Mem) (y0 : Int64) (y2 : Int64) (x4 : Int32) : Option (Int64) := b_X5_lowest_9 N M y0 y2 x4 N y0 y2 (0 : Int32)
set_option maxHeartbeats 4000000 in
set_option maxRecDepth 100000 in
theorem w_X5_lowest_0 (C : CX p s m args meth c cX5_lowest 12 (some .long) RX5 D cy ad zz 0 82 A) {N : Nat} {M : Mem} {y0 : Int64} {y2 : Int64} {x4 : Int32} {rr : Int64} {H : Heap} {locs : List Loc} (hP : va_P D vwCl (pool cy ad 0 82 M) H) (hD : va_D A (pool cy ad 0 82 M)) (hS : va_S A s.heap H locs) {ls : Array Slot} (hl : lv_has ls 12 [(0, .long y0), (2, .long y2), (4, .int x4)]) (h : b_X5_lowest_0 N M y0 y2 x4 = some rr) : W p l e ({ frames := 1, cells := 0, slots := 0, locals := 21 } : Room) s m args below meth c H locs 0 0 (MQ below (va_Ql (fun (x : Int64) (_ : Unit) => x = rr) (fun _ t => PA D cy ad 0 82 A M t) A) args s 0 0 A) (F0 m 0 ls []) := by
  obtain ⟨hx, hb, hml, hown, hts, hr, hlk, hK, hN, hA, hX⟩ := id C
  unfold b_X5_lowest_0 at h
  refine lv_lload_n hx hb dX5_lowest_0 rfl (lv_at hl 0 rfl) ?_
  refine lv_lstore (lv' := [(5, .long y0), (0, .long y0), (2, .long y2), (4, .int x4)]) hx hb dX5_lowest_1 hl (by decide) rfl (fun ls hl => ?_)
  refine lv_lload_n hx hb dX5_lowest_3 rfl (lv_at hl 2 rfl) ?_
  refine lv_lstore (lv' := [(7, .long y2), (5, .long y0), (0, .long y0), (2, .long y2), (4, .int x4)]) hx hb dX5_lowest_4 hl (by decide) rfl (fun ls hl => ?_)
  refine lv_iconst (v := 0) hx hb dX5_lowest_6 (by decide) ?_
  refine lv_istore (lv' := [(9, .int (0 : Int32)), (7, .long y2), (5, .long y0), (0, .long y0), (2, .long y2), (4, .int x4)]) hx hb dX5_lowest_7 hl (by decide) rfl (fun ls hl => ?_)
  exact w_X5_lowest_9 C N _ _ _ _ _ hP hD hS _ (lv_sub hl [3, 4, 5, 2, 1, 0] rfl) h
def f_X5_lowest (N : Nat) (y0 : Int64) (y2 : Int64) (x4 : Int32) (M : Mem) : Option (Int64) := b_X5_lowest_0 N M y0 y2 x4
theorem c_X5_lowest {l : Launch} {D : va_G} {cy : Nat → ClassId} {ad : Nat → Nat} {zz : (Nat → Nat) × (Nat → Nat)} {N : Nat} {y0 : Int64} {y2 : Int64} {x4 : Int32} {M : Mem} {rr : Int64} (h : f_X5_lowest N y0 y2 x4 M = some rr) : CTl l D cy ad zz 0 82 yX5_lowest (.code yX5_lowest cX5_lowest 12 (some .long) :: tb) ({ frames := 1, cells := 0, slots := 0, locals := 21 } : Room) [.long y0, .long y2, .int x4] M rr M := by
  intro sz
  refine CX.of (by decide +kernel) (fun p e s m args below meth c H ls C hP hD hS hl => ?_) (Nat.le_of_ble_eq_true rfl)
  exact w_X5_lowest_0 C hP hD hS hl h
theorem es_X5_lowest : yX5_lowest.cls ≠ "java/lang/invoke/MethodHandle" ∧ yX5_lowest.cls ≠ "java/lang/invoke/VarHandle" ∧ (parseMethodDescriptor yX5_lowest.desc).map (fun d => d.parameters.length) = some 3 := by decide +kernel
def b_X5_share_23 (N : Nat) (x1 : Int32) (x2 : Int32) (M : Mem) : Option (Int64 × Mem) := bd2 (f_X5_trailOf N (0 : Int32) (FI M 1 3) x1 M) fun r33 M33 => (f_J13_bitCount_95d88 r33 M33).bind fun r36 => (f_X5_lowest N (r36.toInt64) (64 : Int64) x2 M33).bind fun r44 => some (r44, M33)
set_option maxHeartbeats 4000000 in
set_option maxRecDepth 100000 in
theorem w_X5_share_23 (C : CX p s m args meth c cX5_share 3 (some .long) RX5 D cy ad zz 0 82 A) {N : Nat} {M : Mem} {x1 : Int32} {x2 : Int32} {rr : Int64} {M' : Mem} {H : Heap} {locs : List Loc} (hP : va_P D vwCl (pool cy ad 0 82 M) H) (hD : va_D A (pool cy ad 0 82 M)) (hS : va_S A s.heap H locs) {ls : Array Slot} (hl : lv_has ls 3 [(0, .ref (ad 0)), (1, .int x1), (2, .int x2)]) (h : b_X5_share_23 N x1 x2 M = some (rr, M')) : W p l e ({ frames := 7, cells := 0, slots := 0, locals := 168 } : Room) s m args below meth c H locs 0 0 (MQ below (va_Ql (fun (x : Int64) (_ : Unit) => x = rr) (fun _ t => PA D cy ad 0 82 A M' t) A) args s 0 0 A) (F0 m 23 ls []) := by
  obtain ⟨hx, hb, hml, hown, hts, hr, hlk, hK, hN, hA, hX⟩ := id C
  unfold b_X5_share_23 at h
  refine lv_aload_n hx hb dX5_share_23 rfl (lv_at hl 0 rfl) ?_
  refine lv_iconst (v := 0) hx hb dX5_share_24 (by decide) ?_
  refine lv_aload_n hx hb dX5_share_25 rfl (lv_at hl 0 rfl) ?_
  refine gf_5_0 C hP (iL (by decide)) (by decide) wd_374 dX5_share_26 ?_
  refine gf_4_3 C hP (iL (by decide)) (by decide) wd_149 dX5_share_29 ?_
  refine lv_iload_n hx hb dX5_share_32 rfl (lv_at hl 1 rfl) ?_
  obtain ⟨r33, M33, g33, h⟩ := bd2_of h
  refine call_lV (As := [.int (0 : Int32), .int (FI M 1 3), .int x1]) (rest := []) C hP hD hS (c_X5_trailOf g33) (iL (by decide)) ⟨5, _, _, ent_5 (by decide), rfl, rfl⟩ (gV wd_644 wd_646 wd_20 wd_64 wd_647) ev_X5_trailOf ⟨rfl, rfl⟩ ⟨Nat.le_of_ble_eq_true rfl, Nat.le_of_ble_eq_true rfl⟩ hl.1 rfl (Nat.le_of_ble_eq_true rfl) dX5_share_33 (fun H locs hP hD hS => ?_)
  obtain ⟨r36, g36, h⟩ := bd_of h
  refine call_iS (As := [.long r33]) (rest := []) C hP hD hS (c_J13_bitCount_95d88 g36) (gS wd_412 wd_413 wd_76 wd_414) es_J13_bitCount_95d88 ⟨rfl, rfl⟩ ⟨Nat.le_of_ble_eq_true rfl, Nat.le_of_ble_eq_true rfl⟩ hl.1 rfl (Nat.le_of_ble_eq_true rfl) dX5_share_36 (fun H locs hP hD hS => ?_)
  refine lv_i2l (v := (r36.toInt64)) hx hb dX5_share_39 rfl ?_
  refine lv_ldc2 hx hb hown (hts _ wd_710) dX5_share_40 ?_
  refine lv_iload_n hx hb dX5_share_43 rfl (lv_at hl 2 rfl) ?_
  obtain ⟨r44, g44, h⟩ := bd_of h
  refine call_lS (As := [.long (r36.toInt64), .long (64 : Int64), .int x2]) (rest := []) C hP hD hS (c_X5_lowest g44) (gS wd_711 wd_712 wd_64 wd_713) es_X5_lowest ⟨rfl, rfl⟩ ⟨Nat.le_of_ble_eq_true rfl, Nat.le_of_ble_eq_true rfl⟩ hl.1 rfl (Nat.le_of_ble_eq_true rfl) dX5_share_44 (fun H locs hP hD hS => ?_)
  exact rt_l (r := r44) C hP hD hS dX5_share_47 (rw_end h)
def b_X5_share_0 (N : Nat) (x1 : Int32) (x2 : Int32) (M : Mem) : Option (Int64 × Mem) := (if x1 < 0 then some ((-4611686018427387904 : Int64), M) else (if (40 : Int32) < x1 then some ((-4611686018427387904 : Int64), M) else (if x2 = 0 then b_X5_share_23 N x1 x2 M else (if x2 = (1 : Int32) then b_X5_share_23 N x1 x2 M else some ((-4611686018427387904 : Int64), M)))))
set_option maxHeartbeats 4000000 in
set_option maxRecDepth 100000 in
theorem w_X5_share_0 (C : CX p s m args meth c cX5_share 3 (some .long) RX5 D cy ad zz 0 82 A) {N : Nat} {M : Mem} {x1 : Int32} {x2 : Int32} {rr : Int64} {M' : Mem} {H : Heap} {locs : List Loc} (hP : va_P D vwCl (pool cy ad 0 82 M) H) (hD : va_D A (pool cy ad 0 82 M)) (hS : va_S A s.heap H locs) {ls : Array Slot} (hl : lv_has ls 3 [(0, .ref (ad 0)), (1, .int x1), (2, .int x2)]) (h : b_X5_share_0 N x1 x2 M = some (rr, M')) : W p l e ({ frames := 7, cells := 0, slots := 0, locals := 168 } : Room) s m args below meth c H locs 0 0 (MQ below (va_Ql (fun (x : Int64) (_ : Unit) => x = rr) (fun _ t => PA D cy ad 0 82 A M' t) A) args s 0 0 A) (F0 m 0 ls []) := by
  obtain ⟨hx, hb, hml, hown, hts, hr, hlk, hK, hN, hA, hX⟩ := id C
  unfold b_X5_share_0 at h
  refine lv_iload_n hx hb dX5_share_0 rfl (lv_at hl 1 rfl) ?_
  refine lv_if_lt (tgt := 19) hx hb dX5_share_1 (by decide) (fun c1 => ?_) (fun c1 => ?_)
  · replace h := it_t c1 h
    refine lv_ldc2 hx hb hown (hts _ wd_643) dX5_share_19 ?_
    exact rt_l (r := (-4611686018427387904 : Int64)) C hP hD hS dX5_share_22 (rw_end h)
  · replace h := it_f c1 h
    refine lv_iload_n hx hb dX5_share_4 rfl (lv_at hl 1 rfl) ?_
    refine lv_bipush (v := 40) hx hb dX5_share_5 (by decide) ?_
    refine lv_icmp_gt (tgt := 19) hx hb dX5_share_7 (by decide) (fun c7 => ?_) (fun c7 => ?_)
    · replace h := it_t c7 h
      refine lv_ldc2 hx hb hown (hts _ wd_643) dX5_share_19 ?_
      exact rt_l (r := (-4611686018427387904 : Int64)) C hP hD hS dX5_share_22 (rw_end h)
    · replace h := it_f c7 h
      refine lv_iload_n hx hb dX5_share_10 rfl (lv_at hl 2 rfl) ?_
      refine lv_if_eq (tgt := 23) hx hb dX5_share_11 (by decide) (fun c11 => ?_) (fun c11 => ?_)
      · replace h := it_t c11 h
        exact w_X5_share_23 C hP hD hS hl h
      · replace h := it_f c11 h
        refine lv_iload_n hx hb dX5_share_14 rfl (lv_at hl 2 rfl) ?_
        refine lv_iconst (v := 1) hx hb dX5_share_15 (by decide) ?_
        refine lv_icmp_eq (tgt := 23) hx hb dX5_share_16 (by decide) (fun c16 => ?_) (fun c16 => ?_)
        · replace h := it_t c16 h
          exact w_X5_share_23 C hP hD hS hl h
        · replace h := it_f c16 h
          refine lv_ldc2 hx hb hown (hts _ wd_643) dX5_share_19 ?_
          exact rt_l (r := (-4611686018427387904 : Int64)) C hP hD hS dX5_share_22 (rw_end h)
def f_X5_share (N : Nat) (x1 : Int32) (x2 : Int32) (M : Mem) : Option (Int64 × Mem) := b_X5_share_0 N x1 x2 M
theorem c_X5_share {l : Launch} {D : va_G} {cy : Nat → ClassId} {ad : Nat → Nat} {zz : (Nat → Nat) × (Nat → Nat)} {N : Nat} {x1 : Int32} {x2 : Int32} {M : Mem} {rr : Int64} {M' : Mem} (h : f_X5_share N x1 x2 M = some (rr, M')) : CTl l D cy ad zz 0 82 yX5_share (.code yX5_share cX5_share 3 (some .long) :: tb) ({ frames := 7, cells := 0, slots := 0, locals := 168 } : Room) [.ref (ad 0), .int x1, .int x2] M rr M' := by
  intro sz
  refine CX.of (by decide +kernel) (fun p e s m args below meth c H ls C hP hD hS hl => ?_) (Nat.le_of_ble_eq_true rfl)
  exact w_X5_share_0 C hP hD hS hl h
theorem ev_X5_share : yX5_share.cls = RX5 ∧ yX5_share.cls ≠ "java/lang/invoke/MethodHandle" ∧ yX5_share.cls ≠ "java/lang/invoke/VarHandle" ∧ (parseMethodDescriptor yX5_share.desc).map (fun d => d.parameters.length) = some 2 := by decide +kernel
def b_X5_toldRefusal_0 (M : Mem) (x1 : Int32) : Option (Int32) := (f_X5_sheetRefusal x1 M).bind fun r2 => (if r2 = 0 then gd (inb x1 (len 73)) (gd (isK (AR 73 x1.toNatClampNeg) 1) ((if (FI M (AR 73 x1.toNatClampNeg) 1) ≤ (20 : Int32) then some (0 : Int32) else some (-2 : Int32)))) else some r2)
set_option maxHeartbeats 4000000 in
set_option maxRecDepth 100000 in
theorem w_X5_toldRefusal_0 (C : CX p s m args meth c cX5_toldRefusal 3 (some .int) RX5 D cy ad zz 0 82 A) {M : Mem} {x1 : Int32} {rr : Int32} {H : Heap} {locs : List Loc} (hP : va_P D vwCl (pool cy ad 0 82 M) H) (hD : va_D A (pool cy ad 0 82 M)) (hS : va_S A s.heap H locs) {ls : Array Slot} (hl : lv_has ls 3 [(0, .ref (ad 0)), (1, .int x1)]) (h : b_X5_toldRefusal_0 M x1 = some rr) : W p l e ({ frames := 2, cells := 0, slots := 0, locals := 41 } : Room) s m args below meth c H locs 0 0 (MQ below (va_Qi (fun (x : Int32) (_ : Unit) => x = rr) (fun _ t => PA D cy ad 0 82 A M t) A) args s 0 0 A) (F0 m 0 ls []) := by
  obtain ⟨hx, hb, hml, hown, hts, hr, hlk, hK, hN, hA, hX⟩ := id C
  unfold b_X5_toldRefusal_0 at h
  refine lv_aload_n hx hb dX5_toldRefusal_0 rfl (lv_at hl 0 rfl) ?_
  refine lv_iload_n hx hb dX5_toldRefusal_1 rfl (lv_at hl 1 rfl) ?_
  obtain ⟨r2, g2, h⟩ := bd_of h
  refine call_iV (As := [.int x1]) (rest := []) C hP hD hS (c_X5_sheetRefusal g2) (iL (by decide)) ⟨5, _, _, ent_5 (by decide), rfl, rfl⟩ (gV wd_552 wd_554 wd_16 wd_64 wd_555) ev_X5_sheetRefusal ⟨rfl, rfl⟩ ⟨Nat.le_of_ble_eq_true rfl, Nat.le_of_ble_eq_true rfl⟩ hl.1 rfl (Nat.le_of_ble_eq_true rfl) dX5_toldRefusal_2 (fun H locs hP hD hS => ?_)
  refine lv_istore_n (lv' := [(2, .int r2), (0, .ref (ad 0)), (1, .int x1)]) hx hb dX5_toldRefusal_5 rfl hl (by decide) rfl (fun ls hl => ?_)
  refine lv_iload_n hx hb dX5_toldRefusal_6 rfl (lv_at hl 0 rfl) ?_
  refine lv_if_eq (tgt := 12) hx hb dX5_toldRefusal_7 (by decide) (fun c7 => ?_) (fun c7 => ?_)
  · replace h := it_t c7 h
    refine lv_aload_n hx hb dX5_toldRefusal_12 rfl (lv_at hl 1 rfl) ?_
    refine gf_5_7 C hP (iL (by decide)) (by decide) wd_381 dX5_toldRefusal_13 ?_
    refine lv_iload_n hx hb dX5_toldRefusal_16 rfl (lv_at hl 2 rfl) ?_
    obtain ⟨gi1, h⟩ := gd_of h
    refine aa_9 C hP (iL (by decide)) (by decide) gi1 dX5_toldRefusal_17 ?_
    obtain ⟨gk2, h⟩ := gd_of h
    refine gf_1_1 C hP (p_1 (isK_of gk2)) (isK_of gk2) wd_200 dX5_toldRefusal_18 ?_
    refine lv_bipush (v := 20) hx hb dX5_toldRefusal_21 (by decide) ?_
    refine lv_icmp_le (tgt := 31) hx hb dX5_toldRefusal_23 (by decide) (fun c23 => ?_) (fun c23 => ?_)
    · replace h := it_t c23 h
      refine lv_iconst (v := 0) hx hb dX5_toldRefusal_31 (by decide) ?_
      exact rt_i (r := (0 : Int32)) C hP hD hS dX5_toldRefusal_32 ⟨Option.some.inj h, rfl⟩
    · replace h := it_f c23 h
      refine lv_bipush (v := -2) hx hb dX5_toldRefusal_26 (by decide) ?_
      refine lv_goto (tgt := 32) hx hb dX5_toldRefusal_28 (by decide) ?_
      exact rt_i (r := (-2 : Int32)) C hP hD hS dX5_toldRefusal_32 ⟨Option.some.inj h, rfl⟩
  · replace h := it_f c7 h
    refine lv_iload_n hx hb dX5_toldRefusal_10 rfl (lv_at hl 0 rfl) ?_
    exact rt_i (r := r2) C hP hD hS dX5_toldRefusal_11 ⟨Option.some.inj h, rfl⟩
def f_X5_toldRefusal (x1 : Int32) (M : Mem) : Option (Int32) := b_X5_toldRefusal_0 M x1
theorem c_X5_toldRefusal {l : Launch} {D : va_G} {cy : Nat → ClassId} {ad : Nat → Nat} {zz : (Nat → Nat) × (Nat → Nat)} {x1 : Int32} {M : Mem} {rr : Int32} (h : f_X5_toldRefusal x1 M = some rr) : CTi l D cy ad zz 0 82 yX5_toldRefusal (.code yX5_toldRefusal cX5_toldRefusal 3 (some .int) :: tb) ({ frames := 2, cells := 0, slots := 0, locals := 41 } : Room) [.ref (ad 0), .int x1] M rr M := by
  intro sz
  refine CX.of (by decide +kernel) (fun p e s m args below meth c H ls C hP hD hS hl => ?_) (Nat.le_of_ble_eq_true rfl)
  exact w_X5_toldRefusal_0 C hP hD hS hl h
theorem ev_X5_toldRefusal : yX5_toldRefusal.cls = RX5 ∧ yX5_toldRefusal.cls ≠ "java/lang/invoke/MethodHandle" ∧ yX5_toldRefusal.cls ≠ "java/lang/invoke/VarHandle" ∧ (parseMethodDescriptor yX5_toldRefusal.desc).map (fun d => d.parameters.length) = some 1 := by decide +kernel
def b_X5_toldOfRefusal_0 (M : Mem) (x1 : Int32) (x2 : Int32) : Option (Int32) := (f_X5_toldRefusal x1 M).bind fun r2 => (if r2 = 0 then (f_X4_numbered 1 x2 M).bind fun r17 => (oc r17 (some (-5 : Int32)) (fun (j20 : Nat) => some (0 : Int32))) else some r2)
set_option maxHeartbeats 4000000 in
set_option maxRecDepth 100000 in
theorem w_X5_toldOfRefusal_0 (C : CX p s m args meth c cX5_toldOfRefusal 4 (some .int) RX5 D cy ad zz 0 82 A) {M : Mem} {x1 : Int32} {x2 : Int32} {rr : Int32} {H : Heap} {locs : List Loc} (hP : va_P D vwCl (pool cy ad 0 82 M) H) (hD : va_D A (pool cy ad 0 82 M)) (hS : va_S A s.heap H locs) {ls : Array Slot} (hl : lv_has ls 4 [(0, .ref (ad 0)), (1, .int x1), (2, .int x2)]) (h : b_X5_toldOfRefusal_0 M x1 x2 = some rr) : W p l e ({ frames := 3, cells := 0, slots := 0, locals := 63 } : Room) s m args below meth c H locs 0 0 (MQ below (va_Qi (fun (x : Int32) (_ : Unit) => x = rr) (fun _ t => PA D cy ad 0 82 A M t) A) args s 0 0 A) (F0 m 0 ls []) := by
  obtain ⟨hx, hb, hml, hown, hts, hr, hlk, hK, hN, hA, hX⟩ := id C
  unfold b_X5_toldOfRefusal_0 at h
  refine lv_aload_n hx hb dX5_toldOfRefusal_0 rfl (lv_at hl 0 rfl) ?_
  refine lv_iload_n hx hb dX5_toldOfRefusal_1 rfl (lv_at hl 1 rfl) ?_
  obtain ⟨r2, g2, h⟩ := bd_of h
  refine call_iV (As := [.int x1]) (rest := []) C hP hD hS (c_X5_toldRefusal g2) (iL (by decide)) ⟨5, _, _, ent_5 (by decide), rfl, rfl⟩ (gV wd_725 wd_727 wd_25 wd_64 wd_728) ev_X5_toldRefusal ⟨rfl, rfl⟩ ⟨Nat.le_of_ble_eq_true rfl, Nat.le_of_ble_eq_true rfl⟩ hl.1 rfl (Nat.le_of_ble_eq_true rfl) dX5_toldOfRefusal_2 (fun H locs hP hD hS => ?_)
  refine lv_istore_n (lv' := [(3, .int r2), (0, .ref (ad 0)), (1, .int x1), (2, .int x2)]) hx hb dX5_toldOfRefusal_5 rfl hl (by decide) rfl (fun ls hl => ?_)
  refine lv_iload_n hx hb dX5_toldOfRefusal_6 rfl (lv_at hl 0 rfl) ?_
  refine lv_if_eq (tgt := 12) hx hb dX5_toldOfRefusal_7 (by decide) (fun c7 => ?_) (fun c7 => ?_)
  · replace h := it_t c7 h
    refine lv_aload_n hx hb dX5_toldOfRefusal_12 rfl (lv_at hl 1 rfl) ?_
    refine gf_5_0 C hP (iL (by decide)) (by decide) wd_374 dX5_toldOfRefusal_13 ?_
    refine lv_iload_n hx hb dX5_toldOfRefusal_16 rfl (lv_at hl 3 rfl) ?_
    obtain ⟨r17, g17, h⟩ := bd_of h
    refine call_qV (As := [.int x2]) (rest := []) C hP hD hS (c_X4_numbered (by decide) g17) (iL (by decide)) ⟨4, _, _, ent_4 (by decide), rfl, rfl⟩ (gV wd_455 wd_456 wd_457 wd_65 wd_458) ev_X4_numbered ⟨rfl, rfl⟩ ⟨Nat.le_of_ble_eq_true rfl, Nat.le_of_ble_eq_true rfl⟩ hl.1 rfl (Nat.le_of_ble_eq_true rfl) dX5_toldOfRefusal_17 (fun H locs hP hD hS => ?_)
    cases r17 with
    | none =>
      replace h := oc_n h
      have hl : lv_has ls 4 [(3, .int r2), (0, .ref (ad 0)), (1, .int x1), (2, .int x2)] := hl
      refine W.eq (g2 := F0 m 20 ls [.null]) rfl ?_
      refine lv_ifnonnullN hx hb dX5_toldOfRefusal_20 ?_
      refine lv_bipush (v := -5) hx hb dX5_toldOfRefusal_23 (by decide) ?_
      refine lv_goto (tgt := 29) hx hb dX5_toldOfRefusal_25 (by decide) ?_
      exact rt_i (r := (-5 : Int32)) C hP hD hS dX5_toldOfRefusal_29 ⟨Option.some.inj h, rfl⟩
    | some j20 =>
      replace h := oc_s h
      have hl : lv_has ls 4 [(3, .int r2), (0, .ref (ad 0)), (1, .int x1), (2, .int x2)] := hl
      refine W.eq (g2 := F0 m 20 ls [.ref (ad j20)]) rfl ?_
      refine lv_ifnonnull (tgt := 28) hx hb dX5_toldOfRefusal_20 (by decide) ?_
      refine lv_iconst (v := 0) hx hb dX5_toldOfRefusal_28 (by decide) ?_
      exact rt_i (r := (0 : Int32)) C hP hD hS dX5_toldOfRefusal_29 ⟨Option.some.inj h, rfl⟩
  · replace h := it_f c7 h
    refine lv_iload_n hx hb dX5_toldOfRefusal_10 rfl (lv_at hl 0 rfl) ?_
    exact rt_i (r := r2) C hP hD hS dX5_toldOfRefusal_11 ⟨Option.some.inj h, rfl⟩
def f_X5_toldOfRefusal (x1 : Int32) (x2 : Int32) (M : Mem) : Option (Int32) := b_X5_toldOfRefusal_0 M x1 x2
theorem c_X5_toldOfRefusal {l : Launch} {D : va_G} {cy : Nat → ClassId} {ad : Nat → Nat} {zz : (Nat → Nat) × (Nat → Nat)} {x1 : Int32} {x2 : Int32} {M : Mem} {rr : Int32} (h : f_X5_toldOfRefusal x1 x2 M = some rr) : CTi l D cy ad zz 0 82 yX5_toldOfRefusal (.code yX5_toldOfRefusal cX5_toldOfRefusal 4 (some .int) :: tb) ({ frames := 3, cells := 0, slots := 0, locals := 63 } : Room) [.ref (ad 0), .int x1, .int x2] M rr M := by
  intro sz
  refine CX.of (by decide +kernel) (fun p e s m args below meth c H ls C hP hD hS hl => ?_) (Nat.le_of_ble_eq_true rfl)
  exact w_X5_toldOfRefusal_0 C hP hD hS hl h
theorem ev_X5_toldOfRefusal : yX5_toldOfRefusal.cls = RX5 ∧ yX5_toldOfRefusal.cls ≠ "java/lang/invoke/MethodHandle" ∧ yX5_toldOfRefusal.cls ≠ "java/lang/invoke/VarHandle" ∧ (parseMethodDescriptor yX5_toldOfRefusal.desc).map (fun d => d.parameters.length) = some 2 := by decide +kernel
def b_X5_firstOtherwise_2 (N : Nat) (j1 : Nat) (j2 : Nat) : Nat → Int32 → Mem → Option (Int32 × Mem)
  | 0, _, _ => none
  | fu + 1, x3, M => (if (FI M j1 1) ≤ x3 then some ((-1 : Int32), M) else bd2 (f_X2_walk N 4 j2 ((FI M 1 1) + x3) (FJ M 1 0) M) fun r31 M31 => (f_X1_read j1 x3 M31).bind fun r44 => (if (FI M31 4 2) = r44 then b_X5_firstOtherwise_2 N j1 j2 fu (x3 + (1 : Int32)) M31 else some (x3, M31)))
set_option maxHeartbeats 4000000 in
set_option maxRecDepth 100000 in
theorem w_X5_firstOtherwise_2 (C : CX p s m args meth c cX5_firstOtherwise 4 (some .int) RX5 D cy ad zz 0 82 A) {N : Nat} {j1 : Nat} (hk_j1 : kd j1 = 1) {j2 : Nat} (hk_j2 : kd j2 = 3) {rr : Int32} {M' : Mem}  : ∀ (fu : Nat), ∀ (x3 : Int32), ∀ (M : Mem), ∀ (H : Heap) (locs : List Loc), va_P D vwCl (pool cy ad 0 82 M) H → va_D A (pool cy ad 0 82 M) → va_S A s.heap H locs → ∀ (ls : Array Slot), lv_has ls 4 [(0, .ref (ad 0)), (1, .ref (ad j1)), (2, .ref (ad j2)), (3, .int x3)] → b_X5_firstOtherwise_2 N j1 j2 fu x3 M = some (rr, M') → W p l e ({ frames := 5, cells := 0, slots := 0, locals := 120 } : Room) s m args below meth c H locs 0 0 (MQ below (va_Qi (fun (x : Int32) (_ : Unit) => x = rr) (fun _ t => PA D cy ad 0 82 A M' t) A) args s 0 0 A) (F0 m 2 ls []) := by
  obtain ⟨hx, hb, hml, hown, hts, hr, hlk, hK, hN, hA, hX⟩ := id C
  intro fu
  induction fu with
  | zero =>
    intro x3 M H locs hP hD hS ls hl h
    exact no_some (show none = some _ from h)
  | succ fu ih =>
    intro x3 M H locs hP hD hS ls hl h
    rw [b_X5_firstOtherwise_2] at h
    refine lv_iload_n hx hb dX5_firstOtherwise_2 rfl (lv_at hl 3 rfl) ?_
    refine lv_aload_n hx hb dX5_firstOtherwise_3 rfl (lv_at hl 1 rfl) ?_
    refine gf_1_1 C hP (p_1 hk_j1) hk_j1 wd_200 dX5_firstOtherwise_4 ?_
    refine lv_icmp_ge (tgt := 58) hx hb dX5_firstOtherwise_7 (by decide) (fun c7 => ?_) (fun c7 => ?_)
    · replace h := it_t c7 h
      refine lv_iconst (v := -1) hx hb dX5_firstOtherwise_58 (by decide) ?_
      exact rt_i (r := (-1 : Int32)) C hP hD hS dX5_firstOtherwise_59 (rw_end h)
    · replace h := it_f c7 h
      refine lv_aload_n hx hb dX5_firstOtherwise_10 rfl (lv_at hl 0 rfl) ?_
      refine gf_5_3 C hP (iL (by decide)) (by decide) wd_377 dX5_firstOtherwise_11 ?_
      refine lv_aload_n hx hb dX5_firstOtherwise_14 rfl (lv_at hl 2 rfl) ?_
      refine lv_aload_n hx hb dX5_firstOtherwise_15 rfl (lv_at hl 0 rfl) ?_
      refine gf_5_0 C hP (iL (by decide)) (by decide) wd_374 dX5_firstOtherwise_16 ?_
      refine gf_4_1 C hP (iL (by decide)) (by decide) wd_145 dX5_firstOtherwise_19 ?_
      refine lv_iload_n hx hb dX5_firstOtherwise_22 rfl (lv_at hl 3 rfl) ?_
      refine lv_iadd hx hb dX5_firstOtherwise_23 ?_
      refine lv_aload_n hx hb dX5_firstOtherwise_24 rfl (lv_at hl 0 rfl) ?_
      refine gf_5_0 C hP (iL (by decide)) (by decide) wd_374 dX5_firstOtherwise_25 ?_
      refine gf_4_0 C hP (iL (by decide)) (by decide) wd_143 dX5_firstOtherwise_28 ?_
      obtain ⟨r31, M31, g31, h⟩ := bd2_of h
      refine call_iV (As := [.ref (ad j2), .int ((FI M 1 1) + x3), .long (FJ M 1 0)]) (rest := []) C hP hD hS (c_X2_walk (by decide) hk_j2 g31) (iL (by decide)) ⟨2, _, _, ent_2 (by decide), rfl, rfl⟩ (gV wd_657 wd_594 wd_595 wd_66 wd_596) ev_X2_walk ⟨rfl, rfl⟩ ⟨Nat.le_of_ble_eq_true rfl, Nat.le_of_ble_eq_true rfl⟩ hl.1 rfl (Nat.le_of_ble_eq_true rfl) dX5_firstOtherwise_31 (fun H locs hP hD hS => ?_)
      refine lv_pop hx hb dX5_firstOtherwise_34 rfl ?_
      refine lv_aload_n hx hb dX5_firstOtherwise_35 rfl (lv_at hl 0 rfl) ?_
      refine gf_5_3 C hP (iL (by decide)) (by decide) wd_377 dX5_firstOtherwise_36 ?_
      refine gf_2_2 C hP (iL (by decide)) (by decide) wd_106 dX5_firstOtherwise_39 ?_
      refine lv_aload_n hx hb dX5_firstOtherwise_42 rfl (lv_at hl 1 rfl) ?_
      refine lv_iload_n hx hb dX5_firstOtherwise_43 rfl (lv_at hl 3 rfl) ?_
      obtain ⟨r44, g44, h⟩ := bd_of h
      refine call_iV (As := [.int x3]) (rest := [.int (FI M31 4 2)]) C hP hD hS (c_X1_read hk_j1 g44) (p_1 hk_j1) ⟨1, _, _, ent_1 hk_j1, rfl, rfl⟩ (gV wd_733 wd_564 wd_565 wd_68 wd_566) ev_X1_read ⟨rfl, rfl⟩ ⟨Nat.le_of_ble_eq_true rfl, Nat.le_of_ble_eq_true rfl⟩ hl.1 rfl (Nat.le_of_ble_eq_true rfl) dX5_firstOtherwise_44 (fun H locs hP hD hS => ?_)
      refine lv_icmp_eq (tgt := 52) hx hb dX5_firstOtherwise_47 (by decide) (fun c47 => ?_) (fun c47 => ?_)
      · replace h := it_t c47 h
        refine lv_iinc (v := (x3 + (1 : Int32))) (lv' := [(3, .int (x3 + (1 : Int32))), (0, .ref (ad 0)), (1, .ref (ad j1)), (2, .ref (ad j2))]) hx hb dX5_firstOtherwise_52 hl (k := 3) rfl rfl (by decide) rfl (fun ls hl => ?_)
        refine lv_goto (tgt := 2) hx hb dX5_firstOtherwise_55 (by decide) ?_
        exact ih _ _ _ _ hP hD hS _ (lv_sub hl [1, 2, 3, 0] rfl) h
      · replace h := it_f c47 h
        refine lv_iload_n hx hb dX5_firstOtherwise_50 rfl (lv_at hl 3 rfl) ?_
        exact rt_i (r := x3) C hP hD hS dX5_firstOtherwise_51 (rw_end h)
def b_X5_firstOtherwise_0 (N : Nat) (j1 : Nat) (j2 : Nat) (M : Mem) : Option (Int32 × Mem) := b_X5_firstOtherwise_2 N j1 j2 N (0 : Int32) M
set_option maxHeartbeats 4000000 in
set_option maxRecDepth 100000 in
theorem w_X5_firstOtherwise_0 (C : CX p s m args meth c cX5_firstOtherwise 4 (some .int) RX5 D cy ad zz 0 82 A) {N : Nat} {M : Mem} {j1 : Nat} (hk_j1 : kd j1 = 1) {j2 : Nat} (hk_j2 : kd j2 = 3) {rr : Int32} {M' : Mem} {H : Heap} {locs : List Loc} (hP : va_P D vwCl (pool cy ad 0 82 M) H) (hD : va_D A (pool cy ad 0 82 M)) (hS : va_S A s.heap H locs) {ls : Array Slot} (hl : lv_has ls 4 [(0, .ref (ad 0)), (1, .ref (ad j1)), (2, .ref (ad j2))]) (h : b_X5_firstOtherwise_0 N j1 j2 M = some (rr, M')) : W p l e ({ frames := 5, cells := 0, slots := 0, locals := 120 } : Room) s m args below meth c H locs 0 0 (MQ below (va_Qi (fun (x : Int32) (_ : Unit) => x = rr) (fun _ t => PA D cy ad 0 82 A M' t) A) args s 0 0 A) (F0 m 0 ls []) := by
  obtain ⟨hx, hb, hml, hown, hts, hr, hlk, hK, hN, hA, hX⟩ := id C
  unfold b_X5_firstOtherwise_0 at h
  refine lv_iconst (v := 0) hx hb dX5_firstOtherwise_0 (by decide) ?_
  refine lv_istore_n (lv' := [(3, .int (0 : Int32)), (0, .ref (ad 0)), (1, .ref (ad j1)), (2, .ref (ad j2))]) hx hb dX5_firstOtherwise_1 rfl hl (by decide) rfl (fun ls hl => ?_)
  exact w_X5_firstOtherwise_2 C hk_j1 hk_j2 N _ _ _ _ hP hD hS _ (lv_sub hl [1, 2, 3, 0] rfl) h
def f_X5_firstOtherwise (N : Nat) (j1 : Nat) (j2 : Nat) (M : Mem) : Option (Int32 × Mem) := b_X5_firstOtherwise_0 N j1 j2 M
theorem c_X5_firstOtherwise {l : Launch} {D : va_G} {cy : Nat → ClassId} {ad : Nat → Nat} {zz : (Nat → Nat) × (Nat → Nat)} {N : Nat} {j1 : Nat} (hk_j1 : kd j1 = 1) {j2 : Nat} (hk_j2 : kd j2 = 3) {M : Mem} {rr : Int32} {M' : Mem} (h : f_X5_firstOtherwise N j1 j2 M = some (rr, M')) : CTi l D cy ad zz 0 82 yX5_firstOtherwise (.code yX5_firstOtherwise cX5_firstOtherwise 4 (some .int) :: tb) ({ frames := 5, cells := 0, slots := 0, locals := 120 } : Room) [.ref (ad 0), .ref (ad j1), .ref (ad j2)] M rr M' := by
  intro sz
  refine CX.of (by decide +kernel) (fun p e s m args below meth c H ls C hP hD hS hl => ?_) (Nat.le_of_ble_eq_true rfl)
  exact w_X5_firstOtherwise_0 C hk_j1 hk_j2 hP hD hS hl h
theorem ev_X5_firstOtherwise : yX5_firstOtherwise.cls = RX5 ∧ yX5_firstOtherwise.cls ≠ "java/lang/invoke/MethodHandle" ∧ yX5_firstOtherwise.cls ≠ "java/lang/invoke/VarHandle" ∧ (parseMethodDescriptor yX5_firstOtherwise.desc).map (fun d => d.parameters.length) = some 2 := by decide +kernel
def b_X5_judge_0 (N : Nat) (x1 : Int32) (x2 : Int32) (M : Mem) : Option (Int32 × Mem) := (f_X5_toldOfRefusal x1 x2 M).bind fun r3 => (if r3 = 0 then bd2 (f_X5_beginThought x2 M) fun r15 M15 => gd (inb x1 (len 73)) ((f_X5_theLaw M15).bind fun r27 => gd (isK (AR 73 x1.toNatClampNeg) 1) (gd (isK r27 3) (bd2 (f_X5_firstOtherwise N (AR 73 x1.toNatClampNeg) r27 M15) fun r30 M30 => some (r30, M30)))) else some (r3, M))
set_option maxHeartbeats 4000000 in
set_option maxRecDepth 100000 in
theorem w_X5_judge_0 (C : CX p s m args meth c cX5_judge 4 (some .int) RX5 D cy ad zz 0 82 A) {N : Nat} {M : Mem} {x1 : Int32} {x2 : Int32} {rr : Int32} {M' : Mem} {H : Heap} {locs : List Loc} (hP : va_P D vwCl (pool cy ad 0 82 M) H) (hD : va_D A (pool cy ad 0 82 M)) (hS : va_S A s.heap H locs) {ls : Array Slot} (hl : lv_has ls 4 [(0, .ref (ad 0)), (1, .int x1), (2, .int x2)]) (h : b_X5_judge_0 N x1 x2 M = some (rr, M')) : W p l e ({ frames := 6, cells := 0, slots := 0, locals := 143 } : Room) s m args below meth c H locs 0 0 (MQ below (va_Qi (fun (x : Int32) (_ : Unit) => x = rr) (fun _ t => PA D cy ad 0 82 A M' t) A) args s 0 0 A) (F0 m 0 ls []) := by
  obtain ⟨hx, hb, hml, hown, hts, hr, hlk, hK, hN, hA, hX⟩ := id C
  unfold b_X5_judge_0 at h
  refine lv_aload_n hx hb dX5_judge_0 rfl (lv_at hl 0 rfl) ?_
  refine lv_iload_n hx hb dX5_judge_1 rfl (lv_at hl 1 rfl) ?_
  refine lv_iload_n hx hb dX5_judge_2 rfl (lv_at hl 2 rfl) ?_
  obtain ⟨r3, g3, h⟩ := bd_of h
  refine call_iV (As := [.int x1, .int x2]) (rest := []) C hP hD hS (c_X5_toldOfRefusal g3) (iL (by decide)) ⟨5, _, _, ent_5 (by decide), rfl, rfl⟩ (gV wd_721 wd_723 wd_24 wd_64 wd_724) ev_X5_toldOfRefusal ⟨rfl, rfl⟩ ⟨Nat.le_of_ble_eq_true rfl, Nat.le_of_ble_eq_true rfl⟩ hl.1 rfl (Nat.le_of_ble_eq_true rfl) dX5_judge_3 (fun H locs hP hD hS => ?_)
  refine lv_istore_n (lv' := [(3, .int r3), (0, .ref (ad 0)), (1, .int x1), (2, .int x2)]) hx hb dX5_judge_6 rfl hl (by decide) rfl (fun ls hl => ?_)
  refine lv_iload_n hx hb dX5_judge_7 rfl (lv_at hl 0 rfl) ?_
  refine lv_if_eq (tgt := 13) hx hb dX5_judge_8 (by decide) (fun c8 => ?_) (fun c8 => ?_)
  · replace h := it_t c8 h
    refine lv_aload_n hx hb dX5_judge_13 rfl (lv_at hl 1 rfl) ?_
    refine lv_iload_n hx hb dX5_judge_14 rfl (lv_at hl 3 rfl) ?_
    obtain ⟨r15, M15, g15, h⟩ := bd2_of h
    refine call_iV (As := [.int x2]) (rest := []) C hP hD hS (c_X5_beginThought g15) (iL (by decide)) ⟨5, _, _, ent_5 (by decide), rfl, rfl⟩ (gV wd_648 wd_650 wd_21 wd_64 wd_651) ev_X5_beginThought ⟨rfl, rfl⟩ ⟨Nat.le_of_ble_eq_true rfl, Nat.le_of_ble_eq_true rfl⟩ hl.1 rfl (Nat.le_of_ble_eq_true rfl) dX5_judge_15 (fun H locs hP hD hS => ?_)
    refine lv_pop hx hb dX5_judge_18 rfl ?_
    refine lv_aload_n hx hb dX5_judge_19 rfl (lv_at hl 1 rfl) ?_
    refine lv_aload_n hx hb dX5_judge_20 rfl (lv_at hl 1 rfl) ?_
    refine gf_5_7 C hP (iL (by decide)) (by decide) wd_381 dX5_judge_21 ?_
    refine lv_iload_n hx hb dX5_judge_24 rfl (lv_at hl 2 rfl) ?_
    obtain ⟨gi1, h⟩ := gd_of h
    refine aa_9 C hP (iL (by decide)) (by decide) gi1 dX5_judge_25 ?_
    refine lv_aload_n hx hb dX5_judge_26 rfl (lv_at hl 1 rfl) ?_
    obtain ⟨r27, g27, h⟩ := bd_of h
    refine call_rV (As := []) (rest := [.ref (ad (AR 73 x1.toNatClampNeg)), .ref (ad 0)]) C hP hD hS (c_X5_theLaw g27) (iL (by decide)) ⟨5, _, _, ent_5 (by decide), rfl, rfl⟩ (gV wd_459 wd_461 wd_13 wd_64 wd_462) ev_X5_theLaw ⟨rfl, rfl⟩ ⟨Nat.le_of_ble_eq_true rfl, Nat.le_of_ble_eq_true rfl⟩ hl.1 rfl (Nat.le_of_ble_eq_true rfl) dX5_judge_27 (fun H locs hP hD hS => ?_)
    obtain ⟨gk2, h⟩ := gd_of h
    obtain ⟨gk3, h⟩ := gd_of h
    obtain ⟨r30, M30, g30, h⟩ := bd2_of h
    refine call_iV (As := [.ref (ad (AR 73 x1.toNatClampNeg)), .ref (ad r27)]) (rest := []) C hP hD hS (c_X5_firstOtherwise (isK_of gk2) (isK_of gk3) g30) (iL (by decide)) ⟨5, _, _, ent_5 (by decide), rfl, rfl⟩ (gV wd_729 wd_731 wd_26 wd_64 wd_732) ev_X5_firstOtherwise ⟨rfl, rfl⟩ ⟨Nat.le_of_ble_eq_true rfl, Nat.le_of_ble_eq_true rfl⟩ hl.1 rfl (Nat.le_of_ble_eq_true rfl) dX5_judge_30 (fun H locs hP hD hS => ?_)
    exact rt_i (r := r30) C hP hD hS dX5_judge_33 (rw_end h)
  · replace h := it_f c8 h
    refine lv_iload_n hx hb dX5_judge_11 rfl (lv_at hl 0 rfl) ?_
    exact rt_i (r := r3) C hP hD hS dX5_judge_12 (rw_end h)
def f_X5_judge (N : Nat) (x1 : Int32) (x2 : Int32) (M : Mem) : Option (Int32 × Mem) := b_X5_judge_0 N x1 x2 M
theorem c_X5_judge {l : Launch} {D : va_G} {cy : Nat → ClassId} {ad : Nat → Nat} {zz : (Nat → Nat) × (Nat → Nat)} {N : Nat} {x1 : Int32} {x2 : Int32} {M : Mem} {rr : Int32} {M' : Mem} (h : f_X5_judge N x1 x2 M = some (rr, M')) : CTi l D cy ad zz 0 82 yX5_judge (.code yX5_judge cX5_judge 4 (some .int) :: tb) ({ frames := 6, cells := 0, slots := 0, locals := 143 } : Room) [.ref (ad 0), .int x1, .int x2] M rr M' := by
  intro sz
  refine CX.of (by decide +kernel) (fun p e s m args below meth c H ls C hP hD hS hl => ?_) (Nat.le_of_ble_eq_true rfl)
  exact w_X5_judge_0 C hP hD hS hl h
theorem ev_X5_judge : yX5_judge.cls = RX5 ∧ yX5_judge.cls ≠ "java/lang/invoke/MethodHandle" ∧ yX5_judge.cls ≠ "java/lang/invoke/VarHandle" ∧ (parseMethodDescriptor yX5_judge.desc).map (fun d => d.parameters.length) = some 2 := by decide +kernel
def b_X5_kinds_112 (N : Nat) (x1 : Int32) (x2 : Int32) (x3 : Int32) (k47 : Int32 → Int32 → Int32 → Mem → Option (Int32 × Mem)) (x5 : Int32) (x6 : Int32) (x7 : Int32) (M : Mem) : Option (Int32 × Mem) := k47 x5 x6 (x7 + (1 : Int32)) M
set_option maxHeartbeats 4000000 in
set_option maxRecDepth 100000 in
theorem w_X5_kinds_112 (C : CX p s m args meth c cX5_kinds 8 (some .int) RX5 D cy ad zz 0 82 A) {N : Nat} {M : Mem} {x1 : Int32} {x2 : Int32} {x3 : Int32} {k47 : Int32 → Int32 → Int32 → Mem → Option (Int32 × Mem)} {rr : Int32} {M' : Mem} (hk47 : ∀ (x5 : Int32), ∀ (x6 : Int32), ∀ (x7 : Int32), ∀ (M : Mem), ∀ (H : Heap) (locs : List Loc), va_P D vwCl (pool cy ad 0 82 M) H → va_D A (pool cy ad 0 82 M) → va_S A s.heap H locs → ∀ (ls : Array Slot), lv_has ls 8 [(0, .ref (ad 0)), (1, .int x1), (2, .int x2), (3, .int x3), (5, .int x5), (6, .int x6), (7, .int x7)] → k47 x5 x6 x7 M = some (rr, M') → W p l e ({ frames := 6, cells := 0, slots := 0, locals := 143 } : Room) s m args below meth c H locs 0 0 (MQ below (va_Qi (fun (x : Int32) (_ : Unit) => x = rr) (fun _ t => PA D cy ad 0 82 A M' t) A) args s 0 0 A) (F0 m 47 ls [])) {x5 : Int32} {x6 : Int32} {x7 : Int32} {H : Heap} {locs : List Loc} (hP : va_P D vwCl (pool cy ad 0 82 M) H) (hD : va_D A (pool cy ad 0 82 M)) (hS : va_S A s.heap H locs) {ls : Array Slot} (hl : lv_has ls 8 [(0, .ref (ad 0)), (1, .int x1), (2, .int x2), (3, .int x3), (5, .int x5), (6, .int x6), (7, .int x7)]) (h : b_X5_kinds_112 N x1 x2 x3 k47 x5 x6 x7 M = some (rr, M')) : W p l e ({ frames := 6, cells := 0, slots := 0, locals := 143 } : Room) s m args below meth c H locs 0 0 (MQ below (va_Qi (fun (x : Int32) (_ : Unit) => x = rr) (fun _ t => PA D cy ad 0 82 A M' t) A) args s 0 0 A) (F0 m 112 ls []) := by
  obtain ⟨hx, hb, hml, hown, hts, hr, hlk, hK, hN, hA, hX⟩ := id C
  unfold b_X5_kinds_112 at h
  refine lv_iinc (v := (x7 + (1 : Int32))) (lv' := [(7, .int (x7 + (1 : Int32))), (0, .ref (ad 0)), (1, .int x1), (2, .int x2), (3, .int x3), (5, .int x5), (6, .int x6)]) hx hb dX5_kinds_112 hl (k := 6) rfl rfl (by decide) rfl (fun ls hl => ?_)
  refine lv_goto (tgt := 47) hx hb dX5_kinds_115 (by decide) ?_
  exact hk47 _ _ _ _ _ _ hP hD hS _ (lv_sub hl [1, 2, 3, 4, 5, 6, 0] rfl) h
def b_X5_kinds_85 (N : Nat) (x1 : Int32) (x2 : Int32) (x3 : Int32) (k47 : Int32 → Int32 → Int32 → Mem → Option (Int32 × Mem)) (x5 : Int32) (x6 : Int32) (x7 : Int32) (M : Mem) : Option (Int32 × Mem) := gd (inb x1 (len 73)) ((f_X5_theLaw M).bind fun r93 => gd (isK (AR 73 x1.toNatClampNeg) 1) (gd (isK r93 3) (bd2 (f_X5_firstOtherwise N (AR 73 x1.toNatClampNeg) r93 M) fun r96 M96 => (if r96 = (-1 : Int32) then b_X5_kinds_112 N x1 x2 x3 k47 (x5 ||| ((1 : Int32) <<< (x7 &&& 31))) x6 x7 M96 else b_X5_kinds_112 N x1 x2 x3 k47 x5 x6 x7 M96))))
set_option maxHeartbeats 4000000 in
set_option maxRecDepth 100000 in
theorem w_X5_kinds_85 (C : CX p s m args meth c cX5_kinds 8 (some .int) RX5 D cy ad zz 0 82 A) {N : Nat} {M : Mem} {x1 : Int32} {x2 : Int32} {x3 : Int32} {k47 : Int32 → Int32 → Int32 → Mem → Option (Int32 × Mem)} {rr : Int32} {M' : Mem} (hk47 : ∀ (x5 : Int32), ∀ (x6 : Int32), ∀ (x7 : Int32), ∀ (M : Mem), ∀ (H : Heap) (locs : List Loc), va_P D vwCl (pool cy ad 0 82 M) H → va_D A (pool cy ad 0 82 M) → va_S A s.heap H locs → ∀ (ls : Array Slot), lv_has ls 8 [(0, .ref (ad 0)), (1, .int x1), (2, .int x2), (3, .int x3), (5, .int x5), (6, .int x6), (7, .int x7)] → k47 x5 x6 x7 M = some (rr, M') → W p l e ({ frames := 6, cells := 0, slots := 0, locals := 143 } : Room) s m args below meth c H locs 0 0 (MQ below (va_Qi (fun (x : Int32) (_ : Unit) => x = rr) (fun _ t => PA D cy ad 0 82 A M' t) A) args s 0 0 A) (F0 m 47 ls [])) {x5 : Int32} {x6 : Int32} {x7 : Int32} {H : Heap} {locs : List Loc} (hP : va_P D vwCl (pool cy ad 0 82 M) H) (hD : va_D A (pool cy ad 0 82 M)) (hS : va_S A s.heap H locs) {ls : Array Slot} (hl : lv_has ls 8 [(0, .ref (ad 0)), (1, .int x1), (2, .int x2), (3, .int x3), (5, .int x5), (6, .int x6), (7, .int x7)]) (h : b_X5_kinds_85 N x1 x2 x3 k47 x5 x6 x7 M = some (rr, M')) : W p l e ({ frames := 6, cells := 0, slots := 0, locals := 143 } : Room) s m args below meth c H locs 0 0 (MQ below (va_Qi (fun (x : Int32) (_ : Unit) => x = rr) (fun _ t => PA D cy ad 0 82 A M' t) A) args s 0 0 A) (F0 m 85 ls []) := by
  obtain ⟨hx, hb, hml, hown, hts, hr, hlk, hK, hN, hA, hX⟩ := id C
  unfold b_X5_kinds_85 at h
  refine lv_aload_n hx hb dX5_kinds_85 rfl (lv_at hl 0 rfl) ?_
  refine lv_aload_n hx hb dX5_kinds_86 rfl (lv_at hl 0 rfl) ?_
  refine gf_5_7 C hP (iL (by decide)) (by decide) wd_381 dX5_kinds_87 ?_
  refine lv_iload_n hx hb dX5_kinds_90 rfl (lv_at hl 1 rfl) ?_
  obtain ⟨gi1, h⟩ := gd_of h
  refine aa_9 C hP (iL (by decide)) (by decide) gi1 dX5_kinds_91 ?_
  refine lv_aload_n hx hb dX5_kinds_92 rfl (lv_at hl 0 rfl) ?_
  obtain ⟨r93, g93, h⟩ := bd_of h
  refine call_rV (As := []) (rest := [.ref (ad (AR 73 x1.toNatClampNeg)), .ref (ad 0)]) C hP hD hS (c_X5_theLaw g93) (iL (by decide)) ⟨5, _, _, ent_5 (by decide), rfl, rfl⟩ (gV wd_459 wd_461 wd_13 wd_64 wd_462) ev_X5_theLaw ⟨rfl, rfl⟩ ⟨Nat.le_of_ble_eq_true rfl, Nat.le_of_ble_eq_true rfl⟩ hl.1 rfl (Nat.le_of_ble_eq_true rfl) dX5_kinds_93 (fun H locs hP hD hS => ?_)
  obtain ⟨gk2, h⟩ := gd_of h
  obtain ⟨gk3, h⟩ := gd_of h
  obtain ⟨r96, M96, g96, h⟩ := bd2_of h
  refine call_iV (As := [.ref (ad (AR 73 x1.toNatClampNeg)), .ref (ad r93)]) (rest := []) C hP hD hS (c_X5_firstOtherwise (isK_of gk2) (isK_of gk3) g96) (iL (by decide)) ⟨5, _, _, ent_5 (by decide), rfl, rfl⟩ (gV wd_729 wd_731 wd_26 wd_64 wd_732) ev_X5_firstOtherwise ⟨rfl, rfl⟩ ⟨Nat.le_of_ble_eq_true rfl, Nat.le_of_ble_eq_true rfl⟩ hl.1 rfl (Nat.le_of_ble_eq_true rfl) dX5_kinds_96 (fun H locs hP hD hS => ?_)
  refine lv_iconst (v := -1) hx hb dX5_kinds_99 (by decide) ?_
  refine lv_icmp_ne (tgt := 112) hx hb dX5_kinds_100 (by decide) (fun c100 => ?_) (fun c100 => ?_)
  · replace h := it_f c100 h
    exact w_X5_kinds_112 C hk47 hP hD hS hl h
  · replace h := it_t c100 h
    refine lv_iload hx hb dX5_kinds_103 (lv_at hl 4 rfl) ?_
    refine lv_iconst (v := 1) hx hb dX5_kinds_105 (by decide) ?_
    refine lv_iload hx hb dX5_kinds_106 (lv_at hl 6 rfl) ?_
    refine lv_ishl hx hb dX5_kinds_108 ?_
    refine lv_ior hx hb dX5_kinds_109 ?_
    refine lv_istore (lv' := [(5, .int (x5 ||| ((1 : Int32) <<< (x7 &&& 31)))), (0, .ref (ad 0)), (1, .int x1), (2, .int x2), (3, .int x3), (6, .int x6), (7, .int x7)]) hx hb dX5_kinds_110 hl (by decide) rfl (fun ls hl => ?_)
    exact w_X5_kinds_112 C hk47 hP hD hS (lv_sub hl [1, 2, 3, 4, 0, 5, 6] rfl) h
def b_X5_kinds_73 (N : Nat) (x1 : Int32) (x2 : Int32) (x3 : Int32) (k47 : Int32 → Int32 → Int32 → Mem → Option (Int32 × Mem)) (x5 : Int32) (x6 : Int32) (x7 : Int32) (M : Mem) : Option (Int32 × Mem) := b_X5_kinds_85 N x1 x2 x3 k47 x5 x6 x7 M
set_option maxHeartbeats 4000000 in
set_option maxRecDepth 100000 in
theorem w_X5_kinds_73 (C : CX p s m args meth c cX5_kinds 8 (some .int) RX5 D cy ad zz 0 82 A) {N : Nat} {M : Mem} {x1 : Int32} {x2 : Int32} {x3 : Int32} {k47 : Int32 → Int32 → Int32 → Mem → Option (Int32 × Mem)} {rr : Int32} {M' : Mem} (hk47 : ∀ (x5 : Int32), ∀ (x6 : Int32), ∀ (x7 : Int32), ∀ (M : Mem), ∀ (H : Heap) (locs : List Loc), va_P D vwCl (pool cy ad 0 82 M) H → va_D A (pool cy ad 0 82 M) → va_S A s.heap H locs → ∀ (ls : Array Slot), lv_has ls 8 [(0, .ref (ad 0)), (1, .int x1), (2, .int x2), (3, .int x3), (5, .int x5), (6, .int x6), (7, .int x7)] → k47 x5 x6 x7 M = some (rr, M') → W p l e ({ frames := 6, cells := 0, slots := 0, locals := 143 } : Room) s m args below meth c H locs 0 0 (MQ below (va_Qi (fun (x : Int32) (_ : Unit) => x = rr) (fun _ t => PA D cy ad 0 82 A M' t) A) args s 0 0 A) (F0 m 47 ls [])) {x5 : Int32} {x6 : Int32} {x7 : Int32} {H : Heap} {locs : List Loc} (hP : va_P D vwCl (pool cy ad 0 82 M) H) (hD : va_D A (pool cy ad 0 82 M)) (hS : va_S A s.heap H locs) {ls : Array Slot} (hl : lv_has ls 8 [(0, .ref (ad 0)), (1, .int x1), (2, .int x2), (3, .int x3), (5, .int x5), (6, .int x6), (7, .int x7)]) (h : b_X5_kinds_73 N x1 x2 x3 k47 x5 x6 x7 M = some (rr, M')) : W p l e ({ frames := 6, cells := 0, slots := 0, locals := 143 } : Room) s m args below meth c H locs 0 0 (MQ below (va_Qi (fun (x : Int32) (_ : Unit) => x = rr) (fun _ t => PA D cy ad 0 82 A M' t) A) args s 0 0 A) (F0 m 73 ls []) := by
  obtain ⟨hx, hb, hml, hown, hts, hr, hlk, hK, hN, hA, hX⟩ := id C
  unfold b_X5_kinds_73 at h
  refine lv_goto (tgt := 85) hx hb dX5_kinds_73 (by decide) ?_
  exact w_X5_kinds_85 C hk47 hP hD hS hl h
def b_X5_kinds_47 (N : Nat) (x1 : Int32) (x2 : Int32) (x3 : Int32) : Nat → Int32 → Int32 → Int32 → Mem → Option (Int32 × Mem)
  | 0, _, _, _, _ => none
  | fu + 1, x5, x6, x7, M => (if x6 ≤ x7 then some (x5, M) else bd2 (f_X5_beginThought x2 M) fun r56 M56 => (if x3 = 0 then b_X5_kinds_73 N x1 x2 x3 (b_X5_kinds_47 N x1 x2 x3 fu) x5 x6 x7 (sFI M56 4 0 x7) else b_X5_kinds_85 N x1 x2 x3 (b_X5_kinds_47 N x1 x2 x3 fu) x5 x6 x7 (sFI M56 4 1 x7)))
set_option maxHeartbeats 4000000 in
set_option maxRecDepth 100000 in
theorem w_X5_kinds_47 (C : CX p s m args meth c cX5_kinds 8 (some .int) RX5 D cy ad zz 0 82 A) {N : Nat} {x1 : Int32} {x2 : Int32} {x3 : Int32} {rr : Int32} {M' : Mem}  : ∀ (fu : Nat), ∀ (x5 : Int32), ∀ (x6 : Int32), ∀ (x7 : Int32), ∀ (M : Mem), ∀ (H : Heap) (locs : List Loc), va_P D vwCl (pool cy ad 0 82 M) H → va_D A (pool cy ad 0 82 M) → va_S A s.heap H locs → ∀ (ls : Array Slot), lv_has ls 8 [(0, .ref (ad 0)), (1, .int x1), (2, .int x2), (3, .int x3), (5, .int x5), (6, .int x6), (7, .int x7)] → b_X5_kinds_47 N x1 x2 x3 fu x5 x6 x7 M = some (rr, M') → W p l e ({ frames := 6, cells := 0, slots := 0, locals := 143 } : Room) s m args below meth c H locs 0 0 (MQ below (va_Qi (fun (x : Int32) (_ : Unit) => x = rr) (fun _ t => PA D cy ad 0 82 A M' t) A) args s 0 0 A) (F0 m 47 ls []) := by
  obtain ⟨hx, hb, hml, hown, hts, hr, hlk, hK, hN, hA, hX⟩ := id C
  intro fu
  induction fu with
  | zero =>
    intro x5 x6 x7 M H locs hP hD hS ls hl h
    exact no_some (show none = some _ from h)
  | succ fu ih =>
    intro x5 x6 x7 M H locs hP hD hS ls hl h
    rw [b_X5_kinds_47] at h
    refine lv_iload hx hb dX5_kinds_47 (lv_at hl 6 rfl) ?_
    refine lv_iload hx hb dX5_kinds_49 (lv_at hl 5 rfl) ?_
    refine lv_icmp_ge (tgt := 118) hx hb dX5_kinds_51 (by decide) (fun c51 => ?_) (fun c51 => ?_)
    · replace h := it_t c51 h
      refine lv_iload hx hb dX5_kinds_118 (lv_at hl 4 rfl) ?_
      exact rt_i (r := x5) C hP hD hS dX5_kinds_120 (rw_end h)
    · replace h := it_f c51 h
      refine lv_aload_n hx hb dX5_kinds_54 rfl (lv_at hl 0 rfl) ?_
      refine lv_iload_n hx hb dX5_kinds_55 rfl (lv_at hl 2 rfl) ?_
      obtain ⟨r56, M56, g56, h⟩ := bd2_of h
      refine call_iV (As := [.int x2]) (rest := []) C hP hD hS (c_X5_beginThought g56) (iL (by decide)) ⟨5, _, _, ent_5 (by decide), rfl, rfl⟩ (gV wd_648 wd_650 wd_21 wd_64 wd_651) ev_X5_beginThought ⟨rfl, rfl⟩ ⟨Nat.le_of_ble_eq_true rfl, Nat.le_of_ble_eq_true rfl⟩ hl.1 rfl (Nat.le_of_ble_eq_true rfl) dX5_kinds_56 (fun H locs hP hD hS => ?_)
      refine lv_pop hx hb dX5_kinds_59 rfl ?_
      refine lv_iload_n hx hb dX5_kinds_60 rfl (lv_at hl 3 rfl) ?_
      refine lv_if_ne (tgt := 76) hx hb dX5_kinds_61 (by decide) (fun c61 => ?_) (fun c61 => ?_)
      · replace h := it_f c61 h
        refine lv_aload_n hx hb dX5_kinds_76 rfl (lv_at hl 0 rfl) ?_
        refine gf_5_3 C hP (iL (by decide)) (by decide) wd_377 dX5_kinds_77 ?_
        refine lv_iload hx hb dX5_kinds_80 (lv_at hl 6 rfl) ?_
        refine pf_2_1 C hP hD hS (iL (by decide)) (by decide) wd_103 dX5_kinds_82 (fun H locs hP hD hS => ?_)
        exact w_X5_kinds_85 C ih hP hD hS hl h
      · replace h := it_t c61 h
        refine lv_aload_n hx hb dX5_kinds_64 rfl (lv_at hl 0 rfl) ?_
        refine gf_5_3 C hP (iL (by decide)) (by decide) wd_377 dX5_kinds_65 ?_
        refine lv_iload hx hb dX5_kinds_68 (lv_at hl 6 rfl) ?_
        refine pf_2_0 C hP hD hS (iL (by decide)) (by decide) wd_101 dX5_kinds_70 (fun H locs hP hD hS => ?_)
        exact w_X5_kinds_73 C ih hP hD hS hl h
def b_X5_kinds_42 (N : Nat) (x1 : Int32) (x2 : Int32) (x3 : Int32) (x5 : Int32) (t0 : Int32) (M : Mem) : Option (Int32 × Mem) := b_X5_kinds_47 N x1 x2 x3 N x5 t0 (0 : Int32) M
set_option maxHeartbeats 4000000 in
set_option maxRecDepth 100000 in
theorem w_X5_kinds_42 (C : CX p s m args meth c cX5_kinds 8 (some .int) RX5 D cy ad zz 0 82 A) {N : Nat} {M : Mem} {x1 : Int32} {x2 : Int32} {x3 : Int32} {rr : Int32} {M' : Mem} {x5 : Int32} {t0 : Int32} {H : Heap} {locs : List Loc} (hP : va_P D vwCl (pool cy ad 0 82 M) H) (hD : va_D A (pool cy ad 0 82 M)) (hS : va_S A s.heap H locs) {ls : Array Slot} (hl : lv_has ls 8 [(0, .ref (ad 0)), (1, .int x1), (2, .int x2), (3, .int x3), (5, .int x5)]) (h : b_X5_kinds_42 N x1 x2 x3 x5 t0 M = some (rr, M')) : W p l e ({ frames := 6, cells := 0, slots := 0, locals := 143 } : Room) s m args below meth c H locs 0 0 (MQ below (va_Qi (fun (x : Int32) (_ : Unit) => x = rr) (fun _ t => PA D cy ad 0 82 A M' t) A) args s 0 0 A) (F0 m 42 ls [.int t0]) := by
  obtain ⟨hx, hb, hml, hown, hts, hr, hlk, hK, hN, hA, hX⟩ := id C
  unfold b_X5_kinds_42 at h
  refine lv_istore (lv' := [(6, .int t0), (0, .ref (ad 0)), (1, .int x1), (2, .int x2), (3, .int x3), (5, .int x5)]) hx hb dX5_kinds_42 hl (by decide) rfl (fun ls hl => ?_)
  refine lv_iconst (v := 0) hx hb dX5_kinds_44 (by decide) ?_
  refine lv_istore (lv' := [(7, .int (0 : Int32)), (6, .int t0), (0, .ref (ad 0)), (1, .int x1), (2, .int x2), (3, .int x3), (5, .int x5)]) hx hb dX5_kinds_45 hl (by decide) rfl (fun ls hl => ?_)
  exact w_X5_kinds_47 C N _ _ _ _ _ _ hP hD hS _ (lv_sub hl [2, 3, 4, 5, 6, 1, 0] rfl) h
def b_X5_kinds_28 (N : Nat) (x1 : Int32) (x2 : Int32) (x3 : Int32) (M : Mem) : Option (Int32 × Mem) := (if x3 = 0 then b_X5_kinds_42 N x1 x2 x3 (0 : Int32) (6 : Int32) M else b_X5_kinds_42 N x1 x2 x3 (0 : Int32) (10 : Int32) M)
set_option maxHeartbeats 4000000 in
set_option maxRecDepth 100000 in
theorem w_X5_kinds_28 (C : CX p s m args meth c cX5_kinds 8 (some .int) RX5 D cy ad zz 0 82 A) {N : Nat} {M : Mem} {x1 : Int32} {x2 : Int32} {x3 : Int32} {rr : Int32} {M' : Mem} {H : Heap} {locs : List Loc} (hP : va_P D vwCl (pool cy ad 0 82 M) H) (hD : va_D A (pool cy ad 0 82 M)) (hS : va_S A s.heap H locs) {ls : Array Slot} (hl : lv_has ls 8 [(0, .ref (ad 0)), (1, .int x1), (2, .int x2), (3, .int x3)]) (h : b_X5_kinds_28 N x1 x2 x3 M = some (rr, M')) : W p l e ({ frames := 6, cells := 0, slots := 0, locals := 143 } : Room) s m args below meth c H locs 0 0 (MQ below (va_Qi (fun (x : Int32) (_ : Unit) => x = rr) (fun _ t => PA D cy ad 0 82 A M' t) A) args s 0 0 A) (F0 m 28 ls []) := by
  obtain ⟨hx, hb, hml, hown, hts, hr, hlk, hK, hN, hA, hX⟩ := id C
  unfold b_X5_kinds_28 at h
  refine lv_iconst (v := 0) hx hb dX5_kinds_28 (by decide) ?_
  refine lv_istore (lv' := [(5, .int (0 : Int32)), (0, .ref (ad 0)), (1, .int x1), (2, .int x2), (3, .int x3)]) hx hb dX5_kinds_29 hl (by decide) rfl (fun ls hl => ?_)
  refine lv_iload_n hx hb dX5_kinds_31 rfl (lv_at hl 4 rfl) ?_
  refine lv_if_ne (tgt := 40) hx hb dX5_kinds_32 (by decide) (fun c32 => ?_) (fun c32 => ?_)
  · replace h := it_f c32 h
    refine lv_bipush (v := 10) hx hb dX5_kinds_40 (by decide) ?_
    exact w_X5_kinds_42 C hP hD hS (lv_sub hl [1, 2, 3, 4, 0] rfl) h
  · replace h := it_t c32 h
    refine lv_bipush (v := 6) hx hb dX5_kinds_35 (by decide) ?_
    refine lv_goto (tgt := 42) hx hb dX5_kinds_37 (by decide) ?_
    exact w_X5_kinds_42 C hP hD hS (lv_sub hl [1, 2, 3, 4, 0] rfl) h
def b_X5_kinds_0 (N : Nat) (x1 : Int32) (x2 : Int32) (x3 : Int32) (M : Mem) : Option (Int32 × Mem) := (f_X5_toldOfRefusal x1 x2 M).bind fun r3 => (if r3 = 0 then (if x3 = 0 then b_X5_kinds_28 N x1 x2 x3 M else (if x3 = (1 : Int32) then b_X5_kinds_28 N x1 x2 x3 M else some ((-7 : Int32), M))) else some (r3, M))
set_option maxHeartbeats 4000000 in
set_option maxRecDepth 100000 in
theorem w_X5_kinds_0 (C : CX p s m args meth c cX5_kinds 8 (some .int) RX5 D cy ad zz 0 82 A) {N : Nat} {M : Mem} {x1 : Int32} {x2 : Int32} {x3 : Int32} {rr : Int32} {M' : Mem} {H : Heap} {locs : List Loc} (hP : va_P D vwCl (pool cy ad 0 82 M) H) (hD : va_D A (pool cy ad 0 82 M)) (hS : va_S A s.heap H locs) {ls : Array Slot} (hl : lv_has ls 8 [(0, .ref (ad 0)), (1, .int x1), (2, .int x2), (3, .int x3)]) (h : b_X5_kinds_0 N x1 x2 x3 M = some (rr, M')) : W p l e ({ frames := 6, cells := 0, slots := 0, locals := 143 } : Room) s m args below meth c H locs 0 0 (MQ below (va_Qi (fun (x : Int32) (_ : Unit) => x = rr) (fun _ t => PA D cy ad 0 82 A M' t) A) args s 0 0 A) (F0 m 0 ls []) := by
  obtain ⟨hx, hb, hml, hown, hts, hr, hlk, hK, hN, hA, hX⟩ := id C
  unfold b_X5_kinds_0 at h
  refine lv_aload_n hx hb dX5_kinds_0 rfl (lv_at hl 0 rfl) ?_
  refine lv_iload_n hx hb dX5_kinds_1 rfl (lv_at hl 1 rfl) ?_
  refine lv_iload_n hx hb dX5_kinds_2 rfl (lv_at hl 2 rfl) ?_
  obtain ⟨r3, g3, h⟩ := bd_of h
  refine call_iV (As := [.int x1, .int x2]) (rest := []) C hP hD hS (c_X5_toldOfRefusal g3) (iL (by decide)) ⟨5, _, _, ent_5 (by decide), rfl, rfl⟩ (gV wd_721 wd_723 wd_24 wd_64 wd_724) ev_X5_toldOfRefusal ⟨rfl, rfl⟩ ⟨Nat.le_of_ble_eq_true rfl, Nat.le_of_ble_eq_true rfl⟩ hl.1 rfl (Nat.le_of_ble_eq_true rfl) dX5_kinds_3 (fun H locs hP hD hS => ?_)
  refine lv_istore (lv' := [(4, .int r3), (0, .ref (ad 0)), (1, .int x1), (2, .int x2), (3, .int x3)]) hx hb dX5_kinds_6 hl (by decide) rfl (fun ls hl => ?_)
  refine lv_iload hx hb dX5_kinds_8 (lv_at hl 0 rfl) ?_
  refine lv_if_eq (tgt := 16) hx hb dX5_kinds_10 (by decide) (fun c10 => ?_) (fun c10 => ?_)
  · replace h := it_t c10 h
    refine lv_iload_n hx hb dX5_kinds_16 rfl (lv_at hl 4 rfl) ?_
    refine lv_if_eq (tgt := 28) hx hb dX5_kinds_17 (by decide) (fun c17 => ?_) (fun c17 => ?_)
    · replace h := it_t c17 h
      exact w_X5_kinds_28 C hP hD hS (lv_sub hl [1, 2, 3, 4] rfl) h
    · replace h := it_f c17 h
      refine lv_iload_n hx hb dX5_kinds_20 rfl (lv_at hl 4 rfl) ?_
      refine lv_iconst (v := 1) hx hb dX5_kinds_21 (by decide) ?_
      refine lv_icmp_eq (tgt := 28) hx hb dX5_kinds_22 (by decide) (fun c22 => ?_) (fun c22 => ?_)
      · replace h := it_t c22 h
        exact w_X5_kinds_28 C hP hD hS (lv_sub hl [1, 2, 3, 4] rfl) h
      · replace h := it_f c22 h
        refine lv_bipush (v := -7) hx hb dX5_kinds_25 (by decide) ?_
        exact rt_i (r := (-7 : Int32)) C hP hD hS dX5_kinds_27 (rw_end h)
  · replace h := it_f c10 h
    refine lv_iload hx hb dX5_kinds_13 (lv_at hl 0 rfl) ?_
    exact rt_i (r := r3) C hP hD hS dX5_kinds_15 (rw_end h)
def f_X5_kinds (N : Nat) (x1 : Int32) (x2 : Int32) (x3 : Int32) (M : Mem) : Option (Int32 × Mem) := b_X5_kinds_0 N x1 x2 x3 M
theorem c_X5_kinds {l : Launch} {D : va_G} {cy : Nat → ClassId} {ad : Nat → Nat} {zz : (Nat → Nat) × (Nat → Nat)} {N : Nat} {x1 : Int32} {x2 : Int32} {x3 : Int32} {M : Mem} {rr : Int32} {M' : Mem} (h : f_X5_kinds N x1 x2 x3 M = some (rr, M')) : CTi l D cy ad zz 0 82 yX5_kinds (.code yX5_kinds cX5_kinds 8 (some .int) :: tb) ({ frames := 6, cells := 0, slots := 0, locals := 143 } : Room) [.ref (ad 0), .int x1, .int x2, .int x3] M rr M' := by
  intro sz
  refine CX.of (by decide +kernel) (fun p e s m args below meth c H ls C hP hD hS hl => ?_) (Nat.le_of_ble_eq_true rfl)
  exact w_X5_kinds_0 C hP hD hS hl h
theorem ev_X5_kinds : yX5_kinds.cls = RX5 ∧ yX5_kinds.cls ≠ "java/lang/invoke/MethodHandle" ∧ yX5_kinds.cls ≠ "java/lang/invoke/VarHandle" ∧ (parseMethodDescriptor yX5_kinds.desc).map (fun d => d.parameters.length) = some 3 := by decide +kernel
def b_X5_bitsSo_83 (N : Nat) (x1 : Int32) (x2 : Int32) (x3 : Int32) (k33 : Int32 → Int64 → Int32 → Mem → Option (Int64 × Mem)) (x5 : Int32) (y6 : Int64) (x8 : Int32) (M : Mem) : Option (Int64 × Mem) := k33 x5 y6 (x8 + (1 : Int32)) M
set_option maxHeartbeats 4000000 in
set_option maxRecDepth 100000 in
theorem w_X5_bitsSo_83 (C : CX p s m args meth c cX5_bitsSo 9 (some .long) RX5 D cy ad zz 0 82 A) {N : Nat} {M : Mem} {x1 : Int32} {x2 : Int32} {x3 : Int32} {k33 : Int32 → Int64 → Int32 → Mem → Option (Int64 × Mem)} {rr : Int64} {M' : Mem} (hk33 : ∀ (x5 : Int32), ∀ (y6 : Int64), ∀ (x8 : Int32), ∀ (M : Mem), ∀ (H : Heap) (locs : List Loc), va_P D vwCl (pool cy ad 0 82 M) H → va_D A (pool cy ad 0 82 M) → va_S A s.heap H locs → ∀ (ls : Array Slot), lv_has ls 9 [(0, .ref (ad 0)), (1, .int x1), (2, .int x2), (3, .int x3), (5, .int x5), (6, .long y6), (8, .int x8)] → k33 x5 y6 x8 M = some (rr, M') → W p l e ({ frames := 6, cells := 0, slots := 0, locals := 143 } : Room) s m args below meth c H locs 0 0 (MQ below (va_Ql (fun (x : Int64) (_ : Unit) => x = rr) (fun _ t => PA D cy ad 0 82 A M' t) A) args s 0 0 A) (F0 m 33 ls [])) {x5 : Int32} {y6 : Int64} {x8 : Int32} {H : Heap} {locs : List Loc} (hP : va_P D vwCl (pool cy ad 0 82 M) H) (hD : va_D A (pool cy ad 0 82 M)) (hS : va_S A s.heap H locs) {ls : Array Slot} (hl : lv_has ls 9 [(0, .ref (ad 0)), (1, .int x1), (2, .int x2), (3, .int x3), (5, .int x5), (6, .long y6), (8, .int x8)]) (h : b_X5_bitsSo_83 N x1 x2 x3 k33 x5 y6 x8 M = some (rr, M')) : W p l e ({ frames := 6, cells := 0, slots := 0, locals := 143 } : Room) s m args below meth c H locs 0 0 (MQ below (va_Ql (fun (x : Int64) (_ : Unit) => x = rr) (fun _ t => PA D cy ad 0 82 A M' t) A) args s 0 0 A) (F0 m 83 ls []) := by
  obtain ⟨hx, hb, hml, hown, hts, hr, hlk, hK, hN, hA, hX⟩ := id C
  unfold b_X5_bitsSo_83 at h
  refine lv_iinc (v := (x8 + (1 : Int32))) (lv' := [(8, .int (x8 + (1 : Int32))), (0, .ref (ad 0)), (1, .int x1), (2, .int x2), (3, .int x3), (5, .int x5), (6, .long y6)]) hx hb dX5_bitsSo_83 hl (k := 6) rfl rfl (by decide) rfl (fun ls hl => ?_)
  refine lv_goto (tgt := 33) hx hb dX5_bitsSo_86 (by decide) ?_
  exact hk33 _ _ _ _ _ _ hP hD hS _ (lv_sub hl [1, 2, 3, 4, 5, 6, 0] rfl) h
def b_X5_bitsSo_33 (N : Nat) (x1 : Int32) (x2 : Int32) (x3 : Int32) : Nat → Int32 → Int64 → Int32 → Mem → Option (Int64 × Mem)
  | 0, _, _, _, _ => none
  | fu + 1, x5, y6, x8, M => (if x5 ≤ x8 then some (y6, M) else bd2 (f_X5_beginThought x2 M) fun r42 M42 => (f_X2_become 4 x3 x8 M42).bind fun M53 => gd (inb x1 (len 73)) ((f_X5_theLaw M53).bind fun r64 => gd (isK (AR 73 x1.toNatClampNeg) 1) (gd (isK r64 3) (bd2 (f_X5_firstOtherwise N (AR 73 x1.toNatClampNeg) r64 M53) fun r67 M67 => (if r67 = (-1 : Int32) then b_X5_bitsSo_83 N x1 x2 x3 (b_X5_bitsSo_33 N x1 x2 x3 fu) x5 (y6 ||| ((1 : Int64) <<< (x8.toInt64 &&& 63))) x8 M67 else b_X5_bitsSo_83 N x1 x2 x3 (b_X5_bitsSo_33 N x1 x2 x3 fu) x5 y6 x8 M67)))))
set_option maxHeartbeats 4000000 in
set_option maxRecDepth 100000 in
theorem w_X5_bitsSo_33 (C : CX p s m args meth c cX5_bitsSo 9 (some .long) RX5 D cy ad zz 0 82 A) {N : Nat} {x1 : Int32} {x2 : Int32} {x3 : Int32} {rr : Int64} {M' : Mem}  : ∀ (fu : Nat), ∀ (x5 : Int32), ∀ (y6 : Int64), ∀ (x8 : Int32), ∀ (M : Mem), ∀ (H : Heap) (locs : List Loc), va_P D vwCl (pool cy ad 0 82 M) H → va_D A (pool cy ad 0 82 M) → va_S A s.heap H locs → ∀ (ls : Array Slot), lv_has ls 9 [(0, .ref (ad 0)), (1, .int x1), (2, .int x2), (3, .int x3), (5, .int x5), (6, .long y6), (8, .int x8)] → b_X5_bitsSo_33 N x1 x2 x3 fu x5 y6 x8 M = some (rr, M') → W p l e ({ frames := 6, cells := 0, slots := 0, locals := 143 } : Room) s m args below meth c H locs 0 0 (MQ below (va_Ql (fun (x : Int64) (_ : Unit) => x = rr) (fun _ t => PA D cy ad 0 82 A M' t) A) args s 0 0 A) (F0 m 33 ls []) := by
  obtain ⟨hx, hb, hml, hown, hts, hr, hlk, hK, hN, hA, hX⟩ := id C
  intro fu
  induction fu with
  | zero =>
    intro x5 y6 x8 M H locs hP hD hS ls hl h
    exact no_some (show none = some _ from h)
  | succ fu ih =>
    intro x5 y6 x8 M H locs hP hD hS ls hl h
    rw [b_X5_bitsSo_33] at h
    refine lv_iload hx hb dX5_bitsSo_33 (lv_at hl 6 rfl) ?_
    refine lv_iload hx hb dX5_bitsSo_35 (lv_at hl 4 rfl) ?_
    refine lv_icmp_ge (tgt := 89) hx hb dX5_bitsSo_37 (by decide) (fun c37 => ?_) (fun c37 => ?_)
    · replace h := it_t c37 h
      refine lv_lload hx hb dX5_bitsSo_89 (lv_at hl 5 rfl) ?_
      exact rt_l (r := y6) C hP hD hS dX5_bitsSo_91 (rw_end h)
    · replace h := it_f c37 h
      refine lv_aload_n hx hb dX5_bitsSo_40 rfl (lv_at hl 0 rfl) ?_
      refine lv_iload_n hx hb dX5_bitsSo_41 rfl (lv_at hl 2 rfl) ?_
      obtain ⟨r42, M42, g42, h⟩ := bd2_of h
      refine call_iV (As := [.int x2]) (rest := []) C hP hD hS (c_X5_beginThought g42) (iL (by decide)) ⟨5, _, _, ent_5 (by decide), rfl, rfl⟩ (gV wd_648 wd_650 wd_21 wd_64 wd_651) ev_X5_beginThought ⟨rfl, rfl⟩ ⟨Nat.le_of_ble_eq_true rfl, Nat.le_of_ble_eq_true rfl⟩ hl.1 rfl (Nat.le_of_ble_eq_true rfl) dX5_bitsSo_42 (fun H locs hP hD hS => ?_)
      refine lv_pop hx hb dX5_bitsSo_45 rfl ?_
      refine lv_aload_n hx hb dX5_bitsSo_46 rfl (lv_at hl 0 rfl) ?_
      refine gf_5_3 C hP (iL (by decide)) (by decide) wd_377 dX5_bitsSo_47 ?_
      refine lv_iload_n hx hb dX5_bitsSo_50 rfl (lv_at hl 3 rfl) ?_
      refine lv_iload hx hb dX5_bitsSo_51 (lv_at hl 6 rfl) ?_
      obtain ⟨M53, g53, h⟩ := bd_of h
      refine call_vV (As := [.int x3, .int x8]) (rest := []) C hP hD hS (c_X2_become (by decide) g53) (iL (by decide)) ⟨2, _, _, ent_2 (by decide), rfl, rfl⟩ (gV wd_518 wd_519 wd_520 wd_66 wd_521) ev_X2_become ⟨rfl, rfl⟩ ⟨Nat.le_of_ble_eq_true rfl, Nat.le_of_ble_eq_true rfl⟩ hl.1 rfl (Nat.le_of_ble_eq_true rfl) dX5_bitsSo_53 (fun H locs hP hD hS => ?_)
      refine lv_aload_n hx hb dX5_bitsSo_56 rfl (lv_at hl 0 rfl) ?_
      refine lv_aload_n hx hb dX5_bitsSo_57 rfl (lv_at hl 0 rfl) ?_
      refine gf_5_7 C hP (iL (by decide)) (by decide) wd_381 dX5_bitsSo_58 ?_
      refine lv_iload_n hx hb dX5_bitsSo_61 rfl (lv_at hl 1 rfl) ?_
      obtain ⟨gi1, h⟩ := gd_of h
      refine aa_9 C hP (iL (by decide)) (by decide) gi1 dX5_bitsSo_62 ?_
      refine lv_aload_n hx hb dX5_bitsSo_63 rfl (lv_at hl 0 rfl) ?_
      obtain ⟨r64, g64, h⟩ := bd_of h
      refine call_rV (As := []) (rest := [.ref (ad (AR 73 x1.toNatClampNeg)), .ref (ad 0)]) C hP hD hS (c_X5_theLaw g64) (iL (by decide)) ⟨5, _, _, ent_5 (by decide), rfl, rfl⟩ (gV wd_459 wd_461 wd_13 wd_64 wd_462) ev_X5_theLaw ⟨rfl, rfl⟩ ⟨Nat.le_of_ble_eq_true rfl, Nat.le_of_ble_eq_true rfl⟩ hl.1 rfl (Nat.le_of_ble_eq_true rfl) dX5_bitsSo_64 (fun H locs hP hD hS => ?_)
      obtain ⟨gk2, h⟩ := gd_of h
      obtain ⟨gk3, h⟩ := gd_of h
      obtain ⟨r67, M67, g67, h⟩ := bd2_of h
      refine call_iV (As := [.ref (ad (AR 73 x1.toNatClampNeg)), .ref (ad r64)]) (rest := []) C hP hD hS (c_X5_firstOtherwise (isK_of gk2) (isK_of gk3) g67) (iL (by decide)) ⟨5, _, _, ent_5 (by decide), rfl, rfl⟩ (gV wd_729 wd_731 wd_26 wd_64 wd_732) ev_X5_firstOtherwise ⟨rfl, rfl⟩ ⟨Nat.le_of_ble_eq_true rfl, Nat.le_of_ble_eq_true rfl⟩ hl.1 rfl (Nat.le_of_ble_eq_true rfl) dX5_bitsSo_67 (fun H locs hP hD hS => ?_)
      refine lv_iconst (v := -1) hx hb dX5_bitsSo_70 (by decide) ?_
      refine lv_icmp_ne (tgt := 83) hx hb dX5_bitsSo_71 (by decide) (fun c71 => ?_) (fun c71 => ?_)
      · replace h := it_f c71 h
        exact w_X5_bitsSo_83 C ih hP hD hS hl h
      · replace h := it_t c71 h
        refine lv_lload hx hb dX5_bitsSo_74 (lv_at hl 5 rfl) ?_
        refine lv_lconst (v := 1) hx hb dX5_bitsSo_76 (by decide) ?_
        refine lv_iload hx hb dX5_bitsSo_77 (lv_at hl 6 rfl) ?_
        refine lv_lshl (v := ((1 : Int64) <<< (x8.toInt64 &&& 63))) hx hb dX5_bitsSo_79 rfl ?_
        refine lv_lor hx hb dX5_bitsSo_80 ?_
        refine lv_lstore (lv' := [(6, .long (y6 ||| ((1 : Int64) <<< (x8.toInt64 &&& 63)))), (0, .ref (ad 0)), (1, .int x1), (2, .int x2), (3, .int x3), (5, .int x5), (8, .int x8)]) hx hb dX5_bitsSo_81 hl (by decide) rfl (fun ls hl => ?_)
        exact w_X5_bitsSo_83 C ih hP hD hS (lv_sub hl [1, 2, 3, 4, 5, 0, 6] rfl) h
def b_X5_bitsSo_25 (N : Nat) (x1 : Int32) (x2 : Int32) (x3 : Int32) (t0 : Int32) (M : Mem) : Option (Int64 × Mem) := b_X5_bitsSo_33 N x1 x2 x3 N t0 (0 : Int64) (0 : Int32) M
set_option maxHeartbeats 4000000 in
set_option maxRecDepth 100000 in
theorem w_X5_bitsSo_25 (C : CX p s m args meth c cX5_bitsSo 9 (some .long) RX5 D cy ad zz 0 82 A) {N : Nat} {M : Mem} {x1 : Int32} {x2 : Int32} {x3 : Int32} {rr : Int64} {M' : Mem} {t0 : Int32} {H : Heap} {locs : List Loc} (hP : va_P D vwCl (pool cy ad 0 82 M) H) (hD : va_D A (pool cy ad 0 82 M)) (hS : va_S A s.heap H locs) {ls : Array Slot} (hl : lv_has ls 9 [(0, .ref (ad 0)), (1, .int x1), (2, .int x2), (3, .int x3)]) (h : b_X5_bitsSo_25 N x1 x2 x3 t0 M = some (rr, M')) : W p l e ({ frames := 6, cells := 0, slots := 0, locals := 143 } : Room) s m args below meth c H locs 0 0 (MQ below (va_Ql (fun (x : Int64) (_ : Unit) => x = rr) (fun _ t => PA D cy ad 0 82 A M' t) A) args s 0 0 A) (F0 m 25 ls [.int t0]) := by
  obtain ⟨hx, hb, hml, hown, hts, hr, hlk, hK, hN, hA, hX⟩ := id C
  unfold b_X5_bitsSo_25 at h
  refine lv_istore (lv' := [(5, .int t0), (0, .ref (ad 0)), (1, .int x1), (2, .int x2), (3, .int x3)]) hx hb dX5_bitsSo_25 hl (by decide) rfl (fun ls hl => ?_)
  refine lv_lconst (v := 0) hx hb dX5_bitsSo_27 (by decide) ?_
  refine lv_lstore (lv' := [(6, .long (0 : Int64)), (5, .int t0), (0, .ref (ad 0)), (1, .int x1), (2, .int x2), (3, .int x3)]) hx hb dX5_bitsSo_28 hl (by decide) rfl (fun ls hl => ?_)
  refine lv_iconst (v := 0) hx hb dX5_bitsSo_30 (by decide) ?_
  refine lv_istore (lv' := [(8, .int (0 : Int32)), (6, .long (0 : Int64)), (5, .int t0), (0, .ref (ad 0)), (1, .int x1), (2, .int x2), (3, .int x3)]) hx hb dX5_bitsSo_31 hl (by decide) rfl (fun ls hl => ?_)
  exact w_X5_bitsSo_33 C N _ _ _ _ _ _ hP hD hS _ (lv_sub hl [3, 4, 5, 6, 2, 1, 0] rfl) h
def b_X5_bitsSo_0 (N : Nat) (x1 : Int32) (x2 : Int32) (x3 : Int32) (M : Mem) : Option (Int64 × Mem) := (f_X4_numbered 1 x2 M).bind fun r5 => (oc r5 (b_X5_bitsSo_25 N x1 x2 x3 (0 : Int32) M) (fun (j12 : Nat) => gd (isK j12 2) ((f_X2_bound j12 x3 M).bind fun r22 => b_X5_bitsSo_25 N x1 x2 x3 r22 M)))
set_option maxHeartbeats 4000000 in
set_option maxRecDepth 100000 in
theorem w_X5_bitsSo_0 (C : CX p s m args meth c cX5_bitsSo 9 (some .long) RX5 D cy ad zz 0 82 A) {N : Nat} {M : Mem} {x1 : Int32} {x2 : Int32} {x3 : Int32} {rr : Int64} {M' : Mem} {H : Heap} {locs : List Loc} (hP : va_P D vwCl (pool cy ad 0 82 M) H) (hD : va_D A (pool cy ad 0 82 M)) (hS : va_S A s.heap H locs) {ls : Array Slot} (hl : lv_has ls 9 [(0, .ref (ad 0)), (1, .int x1), (2, .int x2), (3, .int x3)]) (h : b_X5_bitsSo_0 N x1 x2 x3 M = some (rr, M')) : W p l e ({ frames := 6, cells := 0, slots := 0, locals := 143 } : Room) s m args below meth c H locs 0 0 (MQ below (va_Ql (fun (x : Int64) (_ : Unit) => x = rr) (fun _ t => PA D cy ad 0 82 A M' t) A) args s 0 0 A) (F0 m 0 ls []) := by
  obtain ⟨hx, hb, hml, hown, hts, hr, hlk, hK, hN, hA, hX⟩ := id C
  unfold b_X5_bitsSo_0 at h
  refine lv_aload_n hx hb dX5_bitsSo_0 rfl (lv_at hl 0 rfl) ?_
  refine gf_5_0 C hP (iL (by decide)) (by decide) wd_374 dX5_bitsSo_1 ?_
  refine lv_iload_n hx hb dX5_bitsSo_4 rfl (lv_at hl 2 rfl) ?_
  obtain ⟨r5, g5, h⟩ := bd_of h
  refine call_qV (As := [.int x2]) (rest := []) C hP hD hS (c_X4_numbered (by decide) g5) (iL (by decide)) ⟨4, _, _, ent_4 (by decide), rfl, rfl⟩ (gV wd_455 wd_456 wd_457 wd_65 wd_458) ev_X4_numbered ⟨rfl, rfl⟩ ⟨Nat.le_of_ble_eq_true rfl, Nat.le_of_ble_eq_true rfl⟩ hl.1 rfl (Nat.le_of_ble_eq_true rfl) dX5_bitsSo_5 (fun H locs hP hD hS => ?_)
  refine nq_astore (lv' := [(4, va_re ad r5), (0, .ref (ad 0)), (1, .int x1), (2, .int x2), (3, .int x3)]) hx hb dX5_bitsSo_8 hl (by decide) rfl (fun ls hl => ?_)
  refine nq_aload hx hb dX5_bitsSo_10 (lv_at hl 0 rfl) ?_
  cases r5 with
  | none =>
    replace h := oc_n h
    have hl : lv_has ls 9 [(4, .null), (0, .ref (ad 0)), (1, .int x1), (2, .int x2), (3, .int x3)] := hl
    refine W.eq (g2 := F0 m 12 ls [.null]) rfl ?_
    refine lv_ifnonnullN hx hb dX5_bitsSo_12 ?_
    refine lv_iconst (v := 0) hx hb dX5_bitsSo_15 (by decide) ?_
    refine lv_goto (tgt := 25) hx hb dX5_bitsSo_16 (by decide) ?_
    exact w_X5_bitsSo_25 C hP hD hS (lv_sub hl [1, 2, 3, 4] rfl) h
  | some j12 =>
    replace h := oc_s h
    have hl : lv_has ls 9 [(4, .ref (ad j12)), (0, .ref (ad 0)), (1, .int x1), (2, .int x2), (3, .int x3)] := hl
    refine W.eq (g2 := F0 m 12 ls [.ref (ad j12)]) rfl ?_
    refine lv_ifnonnull (tgt := 19) hx hb dX5_bitsSo_12 (by decide) ?_
    refine lv_aload hx hb dX5_bitsSo_19 (lv_at hl 0 rfl) ?_
    refine lv_iload_n hx hb dX5_bitsSo_21 rfl (lv_at hl 4 rfl) ?_
    obtain ⟨gk1, h⟩ := gd_of h
    obtain ⟨r22, g22, h⟩ := bd_of h
    refine call_iV (As := [.int x3]) (rest := []) C hP hD hS (c_X2_bound (isK_of gk1) g22) (p_2 (isK_of gk1)) ⟨2, _, _, ent_2 (isK_of gk1), rfl, rfl⟩ (gV wd_510 wd_511 wd_512 wd_66 wd_513) ev_X2_bound ⟨rfl, rfl⟩ ⟨Nat.le_of_ble_eq_true rfl, Nat.le_of_ble_eq_true rfl⟩ hl.1 rfl (Nat.le_of_ble_eq_true rfl) dX5_bitsSo_22 (fun H locs hP hD hS => ?_)
    exact w_X5_bitsSo_25 C hP hD hS (lv_sub hl [1, 2, 3, 4] rfl) h
def f_X5_bitsSo (N : Nat) (x1 : Int32) (x2 : Int32) (x3 : Int32) (M : Mem) : Option (Int64 × Mem) := b_X5_bitsSo_0 N x1 x2 x3 M
theorem c_X5_bitsSo {l : Launch} {D : va_G} {cy : Nat → ClassId} {ad : Nat → Nat} {zz : (Nat → Nat) × (Nat → Nat)} {N : Nat} {x1 : Int32} {x2 : Int32} {x3 : Int32} {M : Mem} {rr : Int64} {M' : Mem} (h : f_X5_bitsSo N x1 x2 x3 M = some (rr, M')) : CTl l D cy ad zz 0 82 yX5_bitsSo (.code yX5_bitsSo cX5_bitsSo 9 (some .long) :: tb) ({ frames := 6, cells := 0, slots := 0, locals := 143 } : Room) [.ref (ad 0), .int x1, .int x2, .int x3] M rr M' := by
  intro sz
  refine CX.of (by decide +kernel) (fun p e s m args below meth c H ls C hP hD hS hl => ?_) (Nat.le_of_ble_eq_true rfl)
  exact w_X5_bitsSo_0 C hP hD hS hl h
theorem ev_X5_bitsSo : yX5_bitsSo.cls = RX5 ∧ yX5_bitsSo.cls ≠ "java/lang/invoke/MethodHandle" ∧ yX5_bitsSo.cls ≠ "java/lang/invoke/VarHandle" ∧ (parseMethodDescriptor yX5_bitsSo.desc).map (fun d => d.parameters.length) = some 3 := by decide +kernel
def b_X5_begins_0 (N : Nat) (x1 : Int32) (x2 : Int32) (M : Mem) : Option (Int64 × Mem) := (f_X5_toldOfRefusal x1 x2 M).bind fun r3 => (if r3 = 0 then bd2 (f_X5_bitsSo N x1 x2 (0 : Int32) M) fun r17 M17 => some (r17, M17) else some ((-4611686018427387904 : Int64), M))
set_option maxHeartbeats 4000000 in
set_option maxRecDepth 100000 in
theorem w_X5_begins_0 (C : CX p s m args meth c cX5_begins 3 (some .long) RX5 D cy ad zz 0 82 A) {N : Nat} {M : Mem} {x1 : Int32} {x2 : Int32} {rr : Int64} {M' : Mem} {H : Heap} {locs : List Loc} (hP : va_P D vwCl (pool cy ad 0 82 M) H) (hD : va_D A (pool cy ad 0 82 M)) (hS : va_S A s.heap H locs) {ls : Array Slot} (hl : lv_has ls 3 [(0, .ref (ad 0)), (1, .int x1), (2, .int x2)]) (h : b_X5_begins_0 N x1 x2 M = some (rr, M')) : W p l e ({ frames := 7, cells := 0, slots := 0, locals := 171 } : Room) s m args below meth c H locs 0 0 (MQ below (va_Ql (fun (x : Int64) (_ : Unit) => x = rr) (fun _ t => PA D cy ad 0 82 A M' t) A) args s 0 0 A) (F0 m 0 ls []) := by
  obtain ⟨hx, hb, hml, hown, hts, hr, hlk, hK, hN, hA, hX⟩ := id C
  unfold b_X5_begins_0 at h
  refine lv_aload_n hx hb dX5_begins_0 rfl (lv_at hl 0 rfl) ?_
  refine lv_iload_n hx hb dX5_begins_1 rfl (lv_at hl 1 rfl) ?_
  refine lv_iload_n hx hb dX5_begins_2 rfl (lv_at hl 2 rfl) ?_
  obtain ⟨r3, g3, h⟩ := bd_of h
  refine call_iV (As := [.int x1, .int x2]) (rest := []) C hP hD hS (c_X5_toldOfRefusal g3) (iL (by decide)) ⟨5, _, _, ent_5 (by decide), rfl, rfl⟩ (gV wd_721 wd_723 wd_24 wd_64 wd_724) ev_X5_toldOfRefusal ⟨rfl, rfl⟩ ⟨Nat.le_of_ble_eq_true rfl, Nat.le_of_ble_eq_true rfl⟩ hl.1 rfl (Nat.le_of_ble_eq_true rfl) dX5_begins_3 (fun H locs hP hD hS => ?_)
  refine lv_if_eq (tgt := 13) hx hb dX5_begins_6 (by decide) (fun c6 => ?_) (fun c6 => ?_)
  · replace h := it_t c6 h
    refine lv_aload_n hx hb dX5_begins_13 rfl (lv_at hl 0 rfl) ?_
    refine lv_iload_n hx hb dX5_begins_14 rfl (lv_at hl 1 rfl) ?_
    refine lv_iload_n hx hb dX5_begins_15 rfl (lv_at hl 2 rfl) ?_
    refine lv_iconst (v := 0) hx hb dX5_begins_16 (by decide) ?_
    obtain ⟨r17, M17, g17, h⟩ := bd2_of h
    refine call_lV (As := [.int x1, .int x2, .int (0 : Int32)]) (rest := []) C hP hD hS (c_X5_bitsSo g17) (iL (by decide)) ⟨5, _, _, ent_5 (by decide), rfl, rfl⟩ (gV wd_742 wd_744 wd_27 wd_64 wd_745) ev_X5_bitsSo ⟨rfl, rfl⟩ ⟨Nat.le_of_ble_eq_true rfl, Nat.le_of_ble_eq_true rfl⟩ hl.1 rfl (Nat.le_of_ble_eq_true rfl) dX5_begins_17 (fun H locs hP hD hS => ?_)
    exact rt_l (r := r17) C hP hD hS dX5_begins_20 (rw_end h)
  · replace h := it_f c6 h
    refine lv_ldc2 hx hb hown (hts _ wd_643) dX5_begins_9 ?_
    exact rt_l (r := (-4611686018427387904 : Int64)) C hP hD hS dX5_begins_12 (rw_end h)
def f_X5_begins (N : Nat) (x1 : Int32) (x2 : Int32) (M : Mem) : Option (Int64 × Mem) := b_X5_begins_0 N x1 x2 M
theorem c_X5_begins {l : Launch} {D : va_G} {cy : Nat → ClassId} {ad : Nat → Nat} {zz : (Nat → Nat) × (Nat → Nat)} {N : Nat} {x1 : Int32} {x2 : Int32} {M : Mem} {rr : Int64} {M' : Mem} (h : f_X5_begins N x1 x2 M = some (rr, M')) : CTl l D cy ad zz 0 82 yX5_begins (.code yX5_begins cX5_begins 3 (some .long) :: tb) ({ frames := 7, cells := 0, slots := 0, locals := 171 } : Room) [.ref (ad 0), .int x1, .int x2] M rr M' := by
  intro sz
  refine CX.of (by decide +kernel) (fun p e s m args below meth c H ls C hP hD hS hl => ?_) (Nat.le_of_ble_eq_true rfl)
  exact w_X5_begins_0 C hP hD hS hl h
theorem ev_X5_begins : yX5_begins.cls = RX5 ∧ yX5_begins.cls ≠ "java/lang/invoke/MethodHandle" ∧ yX5_begins.cls ≠ "java/lang/invoke/VarHandle" ∧ (parseMethodDescriptor yX5_begins.desc).map (fun d => d.parameters.length) = some 2 := by decide +kernel
def b_X5_ways_29 (N : Nat) (x1 : Int32) (x2 : Int32) (x3 : Int32) (M : Mem) : Option (Int32 × Mem) := bd2 (f_X5_bitsSo N x1 x2 x3 M) fun r33 M33 => some ((r33.toInt32), M33)
set_option maxHeartbeats 4000000 in
set_option maxRecDepth 100000 in
theorem w_X5_ways_29 (C : CX p s m args meth c cX5_ways 5 (some .int) RX5 D cy ad zz 0 82 A) {N : Nat} {M : Mem} {x1 : Int32} {x2 : Int32} {x3 : Int32} {rr : Int32} {M' : Mem} {H : Heap} {locs : List Loc} (hP : va_P D vwCl (pool cy ad 0 82 M) H) (hD : va_D A (pool cy ad 0 82 M)) (hS : va_S A s.heap H locs) {ls : Array Slot} (hl : lv_has ls 5 [(0, .ref (ad 0)), (1, .int x1), (2, .int x2), (3, .int x3)]) (h : b_X5_ways_29 N x1 x2 x3 M = some (rr, M')) : W p l e ({ frames := 7, cells := 0, slots := 0, locals := 171 } : Room) s m args below meth c H locs 0 0 (MQ below (va_Qi (fun (x : Int32) (_ : Unit) => x = rr) (fun _ t => PA D cy ad 0 82 A M' t) A) args s 0 0 A) (F0 m 29 ls []) := by
  obtain ⟨hx, hb, hml, hown, hts, hr, hlk, hK, hN, hA, hX⟩ := id C
  unfold b_X5_ways_29 at h
  refine lv_aload_n hx hb dX5_ways_29 rfl (lv_at hl 0 rfl) ?_
  refine lv_iload_n hx hb dX5_ways_30 rfl (lv_at hl 1 rfl) ?_
  refine lv_iload_n hx hb dX5_ways_31 rfl (lv_at hl 2 rfl) ?_
  refine lv_iload_n hx hb dX5_ways_32 rfl (lv_at hl 3 rfl) ?_
  obtain ⟨r33, M33, g33, h⟩ := bd2_of h
  refine call_lV (As := [.int x1, .int x2, .int x3]) (rest := []) C hP hD hS (c_X5_bitsSo g33) (iL (by decide)) ⟨5, _, _, ent_5 (by decide), rfl, rfl⟩ (gV wd_742 wd_744 wd_27 wd_64 wd_745) ev_X5_bitsSo ⟨rfl, rfl⟩ ⟨Nat.le_of_ble_eq_true rfl, Nat.le_of_ble_eq_true rfl⟩ hl.1 rfl (Nat.le_of_ble_eq_true rfl) dX5_ways_33 (fun H locs hP hD hS => ?_)
  refine lv_l2i (v := (r33.toInt32)) hx hb dX5_ways_36 rfl ?_
  exact rt_i (r := (r33.toInt32)) C hP hD hS dX5_ways_37 (rw_end h)
def b_X5_ways_0 (N : Nat) (x1 : Int32) (x2 : Int32) (x3 : Int32) (M : Mem) : Option (Int32 × Mem) := (f_X5_toldOfRefusal x1 x2 M).bind fun r3 => (if r3 = 0 then (if x3 = (1 : Int32) then b_X5_ways_29 N x1 x2 x3 M else (if x3 = (2 : Int32) then b_X5_ways_29 N x1 x2 x3 M else some ((-7 : Int32), M))) else some (r3, M))
set_option maxHeartbeats 4000000 in
set_option maxRecDepth 100000 in
theorem w_X5_ways_0 (C : CX p s m args meth c cX5_ways 5 (some .int) RX5 D cy ad zz 0 82 A) {N : Nat} {M : Mem} {x1 : Int32} {x2 : Int32} {x3 : Int32} {rr : Int32} {M' : Mem} {H : Heap} {locs : List Loc} (hP : va_P D vwCl (pool cy ad 0 82 M) H) (hD : va_D A (pool cy ad 0 82 M)) (hS : va_S A s.heap H locs) {ls : Array Slot} (hl : lv_has ls 5 [(0, .ref (ad 0)), (1, .int x1), (2, .int x2), (3, .int x3)]) (h : b_X5_ways_0 N x1 x2 x3 M = some (rr, M')) : W p l e ({ frames := 7, cells := 0, slots := 0, locals := 171 } : Room) s m args below meth c H locs 0 0 (MQ below (va_Qi (fun (x : Int32) (_ : Unit) => x = rr) (fun _ t => PA D cy ad 0 82 A M' t) A) args s 0 0 A) (F0 m 0 ls []) := by
  obtain ⟨hx, hb, hml, hown, hts, hr, hlk, hK, hN, hA, hX⟩ := id C
  unfold b_X5_ways_0 at h
  refine lv_aload_n hx hb dX5_ways_0 rfl (lv_at hl 0 rfl) ?_
  refine lv_iload_n hx hb dX5_ways_1 rfl (lv_at hl 1 rfl) ?_
  refine lv_iload_n hx hb dX5_ways_2 rfl (lv_at hl 2 rfl) ?_
  obtain ⟨r3, g3, h⟩ := bd_of h
  refine call_iV (As := [.int x1, .int x2]) (rest := []) C hP hD hS (c_X5_toldOfRefusal g3) (iL (by decide)) ⟨5, _, _, ent_5 (by decide), rfl, rfl⟩ (gV wd_721 wd_723 wd_24 wd_64 wd_724) ev_X5_toldOfRefusal ⟨rfl, rfl⟩ ⟨Nat.le_of_ble_eq_true rfl, Nat.le_of_ble_eq_true rfl⟩ hl.1 rfl (Nat.le_of_ble_eq_true rfl) dX5_ways_3 (fun H locs hP hD hS => ?_)
  refine lv_istore (lv' := [(4, .int r3), (0, .ref (ad 0)), (1, .int x1), (2, .int x2), (3, .int x3)]) hx hb dX5_ways_6 hl (by decide) rfl (fun ls hl => ?_)
  refine lv_iload hx hb dX5_ways_8 (lv_at hl 0 rfl) ?_
  refine lv_if_eq (tgt := 16) hx hb dX5_ways_10 (by decide) (fun c10 => ?_) (fun c10 => ?_)
  · replace h := it_t c10 h
    refine lv_iload_n hx hb dX5_ways_16 rfl (lv_at hl 4 rfl) ?_
    refine lv_iconst (v := 1) hx hb dX5_ways_17 (by decide) ?_
    refine lv_icmp_eq (tgt := 29) hx hb dX5_ways_18 (by decide) (fun c18 => ?_) (fun c18 => ?_)
    · replace h := it_t c18 h
      exact w_X5_ways_29 C hP hD hS (lv_sub hl [1, 2, 3, 4] rfl) h
    · replace h := it_f c18 h
      refine lv_iload_n hx hb dX5_ways_21 rfl (lv_at hl 4 rfl) ?_
      refine lv_iconst (v := 2) hx hb dX5_ways_22 (by decide) ?_
      refine lv_icmp_eq (tgt := 29) hx hb dX5_ways_23 (by decide) (fun c23 => ?_) (fun c23 => ?_)
      · replace h := it_t c23 h
        exact w_X5_ways_29 C hP hD hS (lv_sub hl [1, 2, 3, 4] rfl) h
      · replace h := it_f c23 h
        refine lv_bipush (v := -7) hx hb dX5_ways_26 (by decide) ?_
        exact rt_i (r := (-7 : Int32)) C hP hD hS dX5_ways_28 (rw_end h)
  · replace h := it_f c10 h
    refine lv_iload hx hb dX5_ways_13 (lv_at hl 0 rfl) ?_
    exact rt_i (r := r3) C hP hD hS dX5_ways_15 (rw_end h)
def f_X5_ways (N : Nat) (x1 : Int32) (x2 : Int32) (x3 : Int32) (M : Mem) : Option (Int32 × Mem) := b_X5_ways_0 N x1 x2 x3 M
theorem c_X5_ways {l : Launch} {D : va_G} {cy : Nat → ClassId} {ad : Nat → Nat} {zz : (Nat → Nat) × (Nat → Nat)} {N : Nat} {x1 : Int32} {x2 : Int32} {x3 : Int32} {M : Mem} {rr : Int32} {M' : Mem} (h : f_X5_ways N x1 x2 x3 M = some (rr, M')) : CTi l D cy ad zz 0 82 yX5_ways (.code yX5_ways cX5_ways 5 (some .int) :: tb) ({ frames := 7, cells := 0, slots := 0, locals := 171 } : Room) [.ref (ad 0), .int x1, .int x2, .int x3] M rr M' := by
  intro sz
  refine CX.of (by decide +kernel) (fun p e s m args below meth c H ls C hP hD hS hl => ?_) (Nat.le_of_ble_eq_true rfl)
  exact w_X5_ways_0 C hP hD hS hl h
theorem ev_X5_ways : yX5_ways.cls = RX5 ∧ yX5_ways.cls ≠ "java/lang/invoke/MethodHandle" ∧ yX5_ways.cls ≠ "java/lang/invoke/VarHandle" ∧ (parseMethodDescriptor yX5_ways.desc).map (fun d => d.parameters.length) = some 3 := by decide +kernel
def b_X5_whose_61 (N : Nat) (x1 : Int32) (k17 : Int32 → Int32 → Mem → Option (Int32 × Mem)) (x3 : Int32) (x4 : Int32) (M : Mem) : Option (Int32 × Mem) := k17 x3 (x4 + (1 : Int32)) M
set_option maxHeartbeats 4000000 in
set_option maxRecDepth 100000 in
theorem w_X5_whose_61 (C : CX p s m args meth c cX5_whose 5 (some .int) RX5 D cy ad zz 0 82 A) {N : Nat} {M : Mem} {x1 : Int32} {k17 : Int32 → Int32 → Mem → Option (Int32 × Mem)} {rr : Int32} {M' : Mem} (hk17 : ∀ (x3 : Int32), ∀ (x4 : Int32), ∀ (M : Mem), ∀ (H : Heap) (locs : List Loc), va_P D vwCl (pool cy ad 0 82 M) H → va_D A (pool cy ad 0 82 M) → va_S A s.heap H locs → ∀ (ls : Array Slot), lv_has ls 5 [(0, .ref (ad 0)), (1, .int x1), (3, .int x3), (4, .int x4)] → k17 x3 x4 M = some (rr, M') → W p l e ({ frames := 6, cells := 0, slots := 0, locals := 143 } : Room) s m args below meth c H locs 0 0 (MQ below (va_Qi (fun (x : Int32) (_ : Unit) => x = rr) (fun _ t => PA D cy ad 0 82 A M' t) A) args s 0 0 A) (F0 m 17 ls [])) {x3 : Int32} {x4 : Int32} {H : Heap} {locs : List Loc} (hP : va_P D vwCl (pool cy ad 0 82 M) H) (hD : va_D A (pool cy ad 0 82 M)) (hS : va_S A s.heap H locs) {ls : Array Slot} (hl : lv_has ls 5 [(0, .ref (ad 0)), (1, .int x1), (3, .int x3), (4, .int x4)]) (h : b_X5_whose_61 N x1 k17 x3 x4 M = some (rr, M')) : W p l e ({ frames := 6, cells := 0, slots := 0, locals := 143 } : Room) s m args below meth c H locs 0 0 (MQ below (va_Qi (fun (x : Int32) (_ : Unit) => x = rr) (fun _ t => PA D cy ad 0 82 A M' t) A) args s 0 0 A) (F0 m 61 ls []) := by
  obtain ⟨hx, hb, hml, hown, hts, hr, hlk, hK, hN, hA, hX⟩ := id C
  unfold b_X5_whose_61 at h
  refine lv_iinc (v := (x4 + (1 : Int32))) (lv' := [(4, .int (x4 + (1 : Int32))), (0, .ref (ad 0)), (1, .int x1), (3, .int x3)]) hx hb dX5_whose_61 hl (k := 3) rfl rfl (by decide) rfl (fun ls hl => ?_)
  refine lv_goto (tgt := 17) hx hb dX5_whose_64 (by decide) ?_
  exact hk17 _ _ _ _ _ hP hD hS _ (lv_sub hl [1, 2, 3, 0] rfl) h
def b_X5_whose_17 (N : Nat) (x1 : Int32) : Nat → Int32 → Int32 → Mem → Option (Int32 × Mem)
  | 0, _, _, _ => none
  | fu + 1, x3, x4, M => (if (FI M 1 3) ≤ x4 then some (x3, M) else bd2 (f_X5_beginThought x4 M) fun r32 M32 => gd (inb x1 (len 73)) ((f_X5_theLaw M32).bind fun r44 => gd (isK (AR 73 x1.toNatClampNeg) 1) (gd (isK r44 3) (bd2 (f_X5_firstOtherwise N (AR 73 x1.toNatClampNeg) r44 M32) fun r47 M47 => (if r47 = (-1 : Int32) then b_X5_whose_61 N x1 (b_X5_whose_17 N x1 fu) (x3 ||| ((1 : Int32) <<< (x4 &&& 31))) x4 M47 else b_X5_whose_61 N x1 (b_X5_whose_17 N x1 fu) x3 x4 M47)))))
set_option maxHeartbeats 4000000 in
set_option maxRecDepth 100000 in
theorem w_X5_whose_17 (C : CX p s m args meth c cX5_whose 5 (some .int) RX5 D cy ad zz 0 82 A) {N : Nat} {x1 : Int32} {rr : Int32} {M' : Mem}  : ∀ (fu : Nat), ∀ (x3 : Int32), ∀ (x4 : Int32), ∀ (M : Mem), ∀ (H : Heap) (locs : List Loc), va_P D vwCl (pool cy ad 0 82 M) H → va_D A (pool cy ad 0 82 M) → va_S A s.heap H locs → ∀ (ls : Array Slot), lv_has ls 5 [(0, .ref (ad 0)), (1, .int x1), (3, .int x3), (4, .int x4)] → b_X5_whose_17 N x1 fu x3 x4 M = some (rr, M') → W p l e ({ frames := 6, cells := 0, slots := 0, locals := 143 } : Room) s m args below meth c H locs 0 0 (MQ below (va_Qi (fun (x : Int32) (_ : Unit) => x = rr) (fun _ t => PA D cy ad 0 82 A M' t) A) args s 0 0 A) (F0 m 17 ls []) := by
  obtain ⟨hx, hb, hml, hown, hts, hr, hlk, hK, hN, hA, hX⟩ := id C
  intro fu
  induction fu with
  | zero =>
    intro x3 x4 M H locs hP hD hS ls hl h
    exact no_some (show none = some _ from h)
  | succ fu ih =>
    intro x3 x4 M H locs hP hD hS ls hl h
    rw [b_X5_whose_17] at h
    refine lv_iload hx hb dX5_whose_17 (lv_at hl 3 rfl) ?_
    refine lv_aload_n hx hb dX5_whose_19 rfl (lv_at hl 0 rfl) ?_
    refine gf_5_0 C hP (iL (by decide)) (by decide) wd_374 dX5_whose_20 ?_
    refine gf_4_3 C hP (iL (by decide)) (by decide) wd_149 dX5_whose_23 ?_
    refine lv_icmp_ge (tgt := 67) hx hb dX5_whose_26 (by decide) (fun c26 => ?_) (fun c26 => ?_)
    · replace h := it_t c26 h
      refine lv_iload_n hx hb dX5_whose_67 rfl (lv_at hl 2 rfl) ?_
      exact rt_i (r := x3) C hP hD hS dX5_whose_68 (rw_end h)
    · replace h := it_f c26 h
      refine lv_aload_n hx hb dX5_whose_29 rfl (lv_at hl 0 rfl) ?_
      refine lv_iload hx hb dX5_whose_30 (lv_at hl 3 rfl) ?_
      obtain ⟨r32, M32, g32, h⟩ := bd2_of h
      refine call_iV (As := [.int x4]) (rest := []) C hP hD hS (c_X5_beginThought g32) (iL (by decide)) ⟨5, _, _, ent_5 (by decide), rfl, rfl⟩ (gV wd_648 wd_650 wd_21 wd_64 wd_651) ev_X5_beginThought ⟨rfl, rfl⟩ ⟨Nat.le_of_ble_eq_true rfl, Nat.le_of_ble_eq_true rfl⟩ hl.1 rfl (Nat.le_of_ble_eq_true rfl) dX5_whose_32 (fun H locs hP hD hS => ?_)
      refine lv_pop hx hb dX5_whose_35 rfl ?_
      refine lv_aload_n hx hb dX5_whose_36 rfl (lv_at hl 0 rfl) ?_
      refine lv_aload_n hx hb dX5_whose_37 rfl (lv_at hl 0 rfl) ?_
      refine gf_5_7 C hP (iL (by decide)) (by decide) wd_381 dX5_whose_38 ?_
      refine lv_iload_n hx hb dX5_whose_41 rfl (lv_at hl 1 rfl) ?_
      obtain ⟨gi1, h⟩ := gd_of h
      refine aa_9 C hP (iL (by decide)) (by decide) gi1 dX5_whose_42 ?_
      refine lv_aload_n hx hb dX5_whose_43 rfl (lv_at hl 0 rfl) ?_
      obtain ⟨r44, g44, h⟩ := bd_of h
      refine call_rV (As := []) (rest := [.ref (ad (AR 73 x1.toNatClampNeg)), .ref (ad 0)]) C hP hD hS (c_X5_theLaw g44) (iL (by decide)) ⟨5, _, _, ent_5 (by decide), rfl, rfl⟩ (gV wd_459 wd_461 wd_13 wd_64 wd_462) ev_X5_theLaw ⟨rfl, rfl⟩ ⟨Nat.le_of_ble_eq_true rfl, Nat.le_of_ble_eq_true rfl⟩ hl.1 rfl (Nat.le_of_ble_eq_true rfl) dX5_whose_44 (fun H locs hP hD hS => ?_)
      obtain ⟨gk2, h⟩ := gd_of h
      obtain ⟨gk3, h⟩ := gd_of h
      obtain ⟨r47, M47, g47, h⟩ := bd2_of h
      refine call_iV (As := [.ref (ad (AR 73 x1.toNatClampNeg)), .ref (ad r44)]) (rest := []) C hP hD hS (c_X5_firstOtherwise (isK_of gk2) (isK_of gk3) g47) (iL (by decide)) ⟨5, _, _, ent_5 (by decide), rfl, rfl⟩ (gV wd_729 wd_731 wd_26 wd_64 wd_732) ev_X5_firstOtherwise ⟨rfl, rfl⟩ ⟨Nat.le_of_ble_eq_true rfl, Nat.le_of_ble_eq_true rfl⟩ hl.1 rfl (Nat.le_of_ble_eq_true rfl) dX5_whose_47 (fun H locs hP hD hS => ?_)
      refine lv_iconst (v := -1) hx hb dX5_whose_50 (by decide) ?_
      refine lv_icmp_ne (tgt := 61) hx hb dX5_whose_51 (by decide) (fun c51 => ?_) (fun c51 => ?_)
      · replace h := it_f c51 h
        exact w_X5_whose_61 C ih hP hD hS hl h
      · replace h := it_t c51 h
        refine lv_iload_n hx hb dX5_whose_54 rfl (lv_at hl 2 rfl) ?_
        refine lv_iconst (v := 1) hx hb dX5_whose_55 (by decide) ?_
        refine lv_iload hx hb dX5_whose_56 (lv_at hl 3 rfl) ?_
        refine lv_ishl hx hb dX5_whose_58 ?_
        refine lv_ior hx hb dX5_whose_59 ?_
        refine lv_istore_n (lv' := [(3, .int (x3 ||| ((1 : Int32) <<< (x4 &&& 31)))), (0, .ref (ad 0)), (1, .int x1), (4, .int x4)]) hx hb dX5_whose_60 rfl hl (by decide) rfl (fun ls hl => ?_)
        exact w_X5_whose_61 C ih hP hD hS (lv_sub hl [1, 2, 0, 3] rfl) h
def b_X5_whose_0 (N : Nat) (x1 : Int32) (M : Mem) : Option (Int32 × Mem) := (f_X5_toldRefusal x1 M).bind fun r2 => (if r2 = 0 then b_X5_whose_17 N x1 N (0 : Int32) (0 : Int32) M else some (r2, M))
set_option maxHeartbeats 4000000 in
set_option maxRecDepth 100000 in
theorem w_X5_whose_0 (C : CX p s m args meth c cX5_whose 5 (some .int) RX5 D cy ad zz 0 82 A) {N : Nat} {M : Mem} {x1 : Int32} {rr : Int32} {M' : Mem} {H : Heap} {locs : List Loc} (hP : va_P D vwCl (pool cy ad 0 82 M) H) (hD : va_D A (pool cy ad 0 82 M)) (hS : va_S A s.heap H locs) {ls : Array Slot} (hl : lv_has ls 5 [(0, .ref (ad 0)), (1, .int x1)]) (h : b_X5_whose_0 N x1 M = some (rr, M')) : W p l e ({ frames := 6, cells := 0, slots := 0, locals := 143 } : Room) s m args below meth c H locs 0 0 (MQ below (va_Qi (fun (x : Int32) (_ : Unit) => x = rr) (fun _ t => PA D cy ad 0 82 A M' t) A) args s 0 0 A) (F0 m 0 ls []) := by
  obtain ⟨hx, hb, hml, hown, hts, hr, hlk, hK, hN, hA, hX⟩ := id C
  unfold b_X5_whose_0 at h
  refine lv_aload_n hx hb dX5_whose_0 rfl (lv_at hl 0 rfl) ?_
  refine lv_iload_n hx hb dX5_whose_1 rfl (lv_at hl 1 rfl) ?_
  obtain ⟨r2, g2, h⟩ := bd_of h
  refine call_iV (As := [.int x1]) (rest := []) C hP hD hS (c_X5_toldRefusal g2) (iL (by decide)) ⟨5, _, _, ent_5 (by decide), rfl, rfl⟩ (gV wd_725 wd_727 wd_25 wd_64 wd_728) ev_X5_toldRefusal ⟨rfl, rfl⟩ ⟨Nat.le_of_ble_eq_true rfl, Nat.le_of_ble_eq_true rfl⟩ hl.1 rfl (Nat.le_of_ble_eq_true rfl) dX5_whose_2 (fun H locs hP hD hS => ?_)
  refine lv_istore_n (lv' := [(2, .int r2), (0, .ref (ad 0)), (1, .int x1)]) hx hb dX5_whose_5 rfl hl (by decide) rfl (fun ls hl => ?_)
  refine lv_iload_n hx hb dX5_whose_6 rfl (lv_at hl 0 rfl) ?_
  refine lv_if_eq (tgt := 12) hx hb dX5_whose_7 (by decide) (fun c7 => ?_) (fun c7 => ?_)
  · replace h := it_t c7 h
    refine lv_iconst (v := 0) hx hb dX5_whose_12 (by decide) ?_
    refine lv_istore_n (lv' := [(3, .int (0 : Int32)), (2, .int r2), (0, .ref (ad 0)), (1, .int x1)]) hx hb dX5_whose_13 rfl hl (by decide) rfl (fun ls hl => ?_)
    refine lv_iconst (v := 0) hx hb dX5_whose_14 (by decide) ?_
    refine lv_istore (lv' := [(4, .int (0 : Int32)), (3, .int (0 : Int32)), (2, .int r2), (0, .ref (ad 0)), (1, .int x1)]) hx hb dX5_whose_15 hl (by decide) rfl (fun ls hl => ?_)
    exact w_X5_whose_17 C N _ _ _ _ _ hP hD hS _ (lv_sub hl [3, 4, 1, 0] rfl) h
  · replace h := it_f c7 h
    refine lv_iload_n hx hb dX5_whose_10 rfl (lv_at hl 0 rfl) ?_
    exact rt_i (r := r2) C hP hD hS dX5_whose_11 (rw_end h)
def f_X5_whose (N : Nat) (x1 : Int32) (M : Mem) : Option (Int32 × Mem) := b_X5_whose_0 N x1 M
theorem c_X5_whose {l : Launch} {D : va_G} {cy : Nat → ClassId} {ad : Nat → Nat} {zz : (Nat → Nat) × (Nat → Nat)} {N : Nat} {x1 : Int32} {M : Mem} {rr : Int32} {M' : Mem} (h : f_X5_whose N x1 M = some (rr, M')) : CTi l D cy ad zz 0 82 yX5_whose (.code yX5_whose cX5_whose 5 (some .int) :: tb) ({ frames := 6, cells := 0, slots := 0, locals := 143 } : Room) [.ref (ad 0), .int x1] M rr M' := by
  intro sz
  refine CX.of (by decide +kernel) (fun p e s m args below meth c H ls C hP hD hS hl => ?_) (Nat.le_of_ble_eq_true rfl)
  exact w_X5_whose_0 C hP hD hS hl h
theorem ev_X5_whose : yX5_whose.cls = RX5 ∧ yX5_whose.cls ≠ "java/lang/invoke/MethodHandle" ∧ yX5_whose.cls ≠ "java/lang/invoke/VarHandle" ∧ (parseMethodDescriptor yX5_whose.desc).map (fun d => d.parameters.length) = some 1 := by decide +kernel
def b_X5_laws_63 (N : Nat) (x1 : Int32) (x2 : Int32) (k19 : Int32 → Int32 → Mem → Option (Int32 × Mem)) (x4 : Int32) (x5 : Int32) (M : Mem) : Option (Int32 × Mem) := k19 x4 (x5 + (1 : Int32)) M
set_option maxHeartbeats 4000000 in
set_option maxRecDepth 100000 in
theorem w_X5_laws_63 (C : CX p s m args meth c cX5_laws 6 (some .int) RX5 D cy ad zz 0 82 A) {N : Nat} {M : Mem} {x1 : Int32} {x2 : Int32} {k19 : Int32 → Int32 → Mem → Option (Int32 × Mem)} {rr : Int32} {M' : Mem} (hk19 : ∀ (x4 : Int32), ∀ (x5 : Int32), ∀ (M : Mem), ∀ (H : Heap) (locs : List Loc), va_P D vwCl (pool cy ad 0 82 M) H → va_D A (pool cy ad 0 82 M) → va_S A s.heap H locs → ∀ (ls : Array Slot), lv_has ls 6 [(0, .ref (ad 0)), (1, .int x1), (2, .int x2), (4, .int x4), (5, .int x5)] → k19 x4 x5 M = some (rr, M') → W p l e ({ frames := 6, cells := 0, slots := 0, locals := 143 } : Room) s m args below meth c H locs 0 0 (MQ below (va_Qi (fun (x : Int32) (_ : Unit) => x = rr) (fun _ t => PA D cy ad 0 82 A M' t) A) args s 0 0 A) (F0 m 19 ls [])) {x4 : Int32} {x5 : Int32} {H : Heap} {locs : List Loc} (hP : va_P D vwCl (pool cy ad 0 82 M) H) (hD : va_D A (pool cy ad 0 82 M)) (hS : va_S A s.heap H locs) {ls : Array Slot} (hl : lv_has ls 6 [(0, .ref (ad 0)), (1, .int x1), (2, .int x2), (4, .int x4), (5, .int x5)]) (h : b_X5_laws_63 N x1 x2 k19 x4 x5 M = some (rr, M')) : W p l e ({ frames := 6, cells := 0, slots := 0, locals := 143 } : Room) s m args below meth c H locs 0 0 (MQ below (va_Qi (fun (x : Int32) (_ : Unit) => x = rr) (fun _ t => PA D cy ad 0 82 A M' t) A) args s 0 0 A) (F0 m 63 ls []) := by
  obtain ⟨hx, hb, hml, hown, hts, hr, hlk, hK, hN, hA, hX⟩ := id C
  unfold b_X5_laws_63 at h
  refine lv_iinc (v := (x5 + (1 : Int32))) (lv' := [(5, .int (x5 + (1 : Int32))), (0, .ref (ad 0)), (1, .int x1), (2, .int x2), (4, .int x4)]) hx hb dX5_laws_63 hl (k := 4) rfl rfl (by decide) rfl (fun ls hl => ?_)
  refine lv_goto (tgt := 19) hx hb dX5_laws_66 (by decide) ?_
  exact hk19 _ _ _ _ _ hP hD hS _ (lv_sub hl [1, 2, 3, 4, 0] rfl) h
def b_X5_laws_19 (N : Nat) (x1 : Int32) (x2 : Int32) : Nat → Int32 → Int32 → Mem → Option (Int32 × Mem)
  | 0, _, _, _ => none
  | fu + 1, x4, x5, M => (if (FI M 0 8) ≤ x5 then some (x4, M) else bd2 (f_X5_beginThought x2 M) fun r30 M30 => gd (inb x1 (len 73)) ((f_X5_textNumbered x5 M30).bind fun r44 => gd (isK (AR 73 x1.toNatClampNeg) 1) (gd (isK r44 3) (bd2 (f_X5_firstOtherwise N (AR 73 x1.toNatClampNeg) r44 M30) fun r47 M47 => (if r47 = (-1 : Int32) then b_X5_laws_63 N x1 x2 (b_X5_laws_19 N x1 x2 fu) (x4 ||| ((1 : Int32) <<< (x5 &&& 31))) x5 M47 else b_X5_laws_63 N x1 x2 (b_X5_laws_19 N x1 x2 fu) x4 x5 M47)))))
set_option maxHeartbeats 4000000 in
set_option maxRecDepth 100000 in
theorem w_X5_laws_19 (C : CX p s m args meth c cX5_laws 6 (some .int) RX5 D cy ad zz 0 82 A) {N : Nat} {x1 : Int32} {x2 : Int32} {rr : Int32} {M' : Mem}  : ∀ (fu : Nat), ∀ (x4 : Int32), ∀ (x5 : Int32), ∀ (M : Mem), ∀ (H : Heap) (locs : List Loc), va_P D vwCl (pool cy ad 0 82 M) H → va_D A (pool cy ad 0 82 M) → va_S A s.heap H locs → ∀ (ls : Array Slot), lv_has ls 6 [(0, .ref (ad 0)), (1, .int x1), (2, .int x2), (4, .int x4), (5, .int x5)] → b_X5_laws_19 N x1 x2 fu x4 x5 M = some (rr, M') → W p l e ({ frames := 6, cells := 0, slots := 0, locals := 143 } : Room) s m args below meth c H locs 0 0 (MQ below (va_Qi (fun (x : Int32) (_ : Unit) => x = rr) (fun _ t => PA D cy ad 0 82 A M' t) A) args s 0 0 A) (F0 m 19 ls []) := by
  obtain ⟨hx, hb, hml, hown, hts, hr, hlk, hK, hN, hA, hX⟩ := id C
  intro fu
  induction fu with
  | zero =>
    intro x4 x5 M H locs hP hD hS ls hl h
    exact no_some (show none = some _ from h)
  | succ fu ih =>
    intro x4 x5 M H locs hP hD hS ls hl h
    rw [b_X5_laws_19] at h
    refine lv_iload hx hb dX5_laws_19 (lv_at hl 4 rfl) ?_
    refine lv_aload_n hx hb dX5_laws_21 rfl (lv_at hl 0 rfl) ?_
    refine gf_5_8 C hP (iL (by decide)) (by decide) wd_382 dX5_laws_22 ?_
    refine lv_icmp_ge (tgt := 69) hx hb dX5_laws_25 (by decide) (fun c25 => ?_) (fun c25 => ?_)
    · replace h := it_t c25 h
      refine lv_iload hx hb dX5_laws_69 (lv_at hl 3 rfl) ?_
      exact rt_i (r := x4) C hP hD hS dX5_laws_71 (rw_end h)
    · replace h := it_f c25 h
      refine lv_aload_n hx hb dX5_laws_28 rfl (lv_at hl 0 rfl) ?_
      refine lv_iload_n hx hb dX5_laws_29 rfl (lv_at hl 2 rfl) ?_
      obtain ⟨r30, M30, g30, h⟩ := bd2_of h
      refine call_iV (As := [.int x2]) (rest := []) C hP hD hS (c_X5_beginThought g30) (iL (by decide)) ⟨5, _, _, ent_5 (by decide), rfl, rfl⟩ (gV wd_648 wd_650 wd_21 wd_64 wd_651) ev_X5_beginThought ⟨rfl, rfl⟩ ⟨Nat.le_of_ble_eq_true rfl, Nat.le_of_ble_eq_true rfl⟩ hl.1 rfl (Nat.le_of_ble_eq_true rfl) dX5_laws_30 (fun H locs hP hD hS => ?_)
      refine lv_pop hx hb dX5_laws_33 rfl ?_
      refine lv_aload_n hx hb dX5_laws_34 rfl (lv_at hl 0 rfl) ?_
      refine lv_aload_n hx hb dX5_laws_35 rfl (lv_at hl 0 rfl) ?_
      refine gf_5_7 C hP (iL (by decide)) (by decide) wd_381 dX5_laws_36 ?_
      refine lv_iload_n hx hb dX5_laws_39 rfl (lv_at hl 1 rfl) ?_
      obtain ⟨gi1, h⟩ := gd_of h
      refine aa_9 C hP (iL (by decide)) (by decide) gi1 dX5_laws_40 ?_
      refine lv_aload_n hx hb dX5_laws_41 rfl (lv_at hl 0 rfl) ?_
      refine lv_iload hx hb dX5_laws_42 (lv_at hl 4 rfl) ?_
      obtain ⟨r44, g44, h⟩ := bd_of h
      refine call_rV (As := [.int x5]) (rest := [.ref (ad (AR 73 x1.toNatClampNeg)), .ref (ad 0)]) C hP hD hS (c_X5_textNumbered g44) (iL (by decide)) ⟨5, _, _, ent_5 (by decide), rfl, rfl⟩ (gV wd_463 wd_465 wd_14 wd_64 wd_466) ev_X5_textNumbered ⟨rfl, rfl⟩ ⟨Nat.le_of_ble_eq_true rfl, Nat.le_of_ble_eq_true rfl⟩ hl.1 rfl (Nat.le_of_ble_eq_true rfl) dX5_laws_44 (fun H locs hP hD hS => ?_)
      obtain ⟨gk2, h⟩ := gd_of h
      obtain ⟨gk3, h⟩ := gd_of h
      obtain ⟨r47, M47, g47, h⟩ := bd2_of h
      refine call_iV (As := [.ref (ad (AR 73 x1.toNatClampNeg)), .ref (ad r44)]) (rest := []) C hP hD hS (c_X5_firstOtherwise (isK_of gk2) (isK_of gk3) g47) (iL (by decide)) ⟨5, _, _, ent_5 (by decide), rfl, rfl⟩ (gV wd_729 wd_731 wd_26 wd_64 wd_732) ev_X5_firstOtherwise ⟨rfl, rfl⟩ ⟨Nat.le_of_ble_eq_true rfl, Nat.le_of_ble_eq_true rfl⟩ hl.1 rfl (Nat.le_of_ble_eq_true rfl) dX5_laws_47 (fun H locs hP hD hS => ?_)
      refine lv_iconst (v := -1) hx hb dX5_laws_50 (by decide) ?_
      refine lv_icmp_ne (tgt := 63) hx hb dX5_laws_51 (by decide) (fun c51 => ?_) (fun c51 => ?_)
      · replace h := it_f c51 h
        exact w_X5_laws_63 C ih hP hD hS hl h
      · replace h := it_t c51 h
        refine lv_iload hx hb dX5_laws_54 (lv_at hl 3 rfl) ?_
        refine lv_iconst (v := 1) hx hb dX5_laws_56 (by decide) ?_
        refine lv_iload hx hb dX5_laws_57 (lv_at hl 4 rfl) ?_
        refine lv_ishl hx hb dX5_laws_59 ?_
        refine lv_ior hx hb dX5_laws_60 ?_
        refine lv_istore (lv' := [(4, .int (x4 ||| ((1 : Int32) <<< (x5 &&& 31)))), (0, .ref (ad 0)), (1, .int x1), (2, .int x2), (5, .int x5)]) hx hb dX5_laws_61 hl (by decide) rfl (fun ls hl => ?_)
        exact w_X5_laws_63 C ih hP hD hS (lv_sub hl [1, 2, 3, 0, 4] rfl) h
def b_X5_laws_0 (N : Nat) (x1 : Int32) (x2 : Int32) (M : Mem) : Option (Int32 × Mem) := (f_X5_toldOfRefusal x1 x2 M).bind fun r3 => (if r3 = 0 then b_X5_laws_19 N x1 x2 N (0 : Int32) (0 : Int32) M else some (r3, M))
set_option maxHeartbeats 4000000 in
set_option maxRecDepth 100000 in
theorem w_X5_laws_0 (C : CX p s m args meth c cX5_laws 6 (some .int) RX5 D cy ad zz 0 82 A) {N : Nat} {M : Mem} {x1 : Int32} {x2 : Int32} {rr : Int32} {M' : Mem} {H : Heap} {locs : List Loc} (hP : va_P D vwCl (pool cy ad 0 82 M) H) (hD : va_D A (pool cy ad 0 82 M)) (hS : va_S A s.heap H locs) {ls : Array Slot} (hl : lv_has ls 6 [(0, .ref (ad 0)), (1, .int x1), (2, .int x2)]) (h : b_X5_laws_0 N x1 x2 M = some (rr, M')) : W p l e ({ frames := 6, cells := 0, slots := 0, locals := 143 } : Room) s m args below meth c H locs 0 0 (MQ below (va_Qi (fun (x : Int32) (_ : Unit) => x = rr) (fun _ t => PA D cy ad 0 82 A M' t) A) args s 0 0 A) (F0 m 0 ls []) := by
  obtain ⟨hx, hb, hml, hown, hts, hr, hlk, hK, hN, hA, hX⟩ := id C
  unfold b_X5_laws_0 at h
  refine lv_aload_n hx hb dX5_laws_0 rfl (lv_at hl 0 rfl) ?_
  refine lv_iload_n hx hb dX5_laws_1 rfl (lv_at hl 1 rfl) ?_
  refine lv_iload_n hx hb dX5_laws_2 rfl (lv_at hl 2 rfl) ?_
  obtain ⟨r3, g3, h⟩ := bd_of h
  refine call_iV (As := [.int x1, .int x2]) (rest := []) C hP hD hS (c_X5_toldOfRefusal g3) (iL (by decide)) ⟨5, _, _, ent_5 (by decide), rfl, rfl⟩ (gV wd_721 wd_723 wd_24 wd_64 wd_724) ev_X5_toldOfRefusal ⟨rfl, rfl⟩ ⟨Nat.le_of_ble_eq_true rfl, Nat.le_of_ble_eq_true rfl⟩ hl.1 rfl (Nat.le_of_ble_eq_true rfl) dX5_laws_3 (fun H locs hP hD hS => ?_)
  refine lv_istore_n (lv' := [(3, .int r3), (0, .ref (ad 0)), (1, .int x1), (2, .int x2)]) hx hb dX5_laws_6 rfl hl (by decide) rfl (fun ls hl => ?_)
  refine lv_iload_n hx hb dX5_laws_7 rfl (lv_at hl 0 rfl) ?_
  refine lv_if_eq (tgt := 13) hx hb dX5_laws_8 (by decide) (fun c8 => ?_) (fun c8 => ?_)
  · replace h := it_t c8 h
    refine lv_iconst (v := 0) hx hb dX5_laws_13 (by decide) ?_
    refine lv_istore (lv' := [(4, .int (0 : Int32)), (3, .int r3), (0, .ref (ad 0)), (1, .int x1), (2, .int x2)]) hx hb dX5_laws_14 hl (by decide) rfl (fun ls hl => ?_)
    refine lv_iconst (v := 0) hx hb dX5_laws_16 (by decide) ?_
    refine lv_istore (lv' := [(5, .int (0 : Int32)), (4, .int (0 : Int32)), (3, .int r3), (0, .ref (ad 0)), (1, .int x1), (2, .int x2)]) hx hb dX5_laws_17 hl (by decide) rfl (fun ls hl => ?_)
    exact w_X5_laws_19 C N _ _ _ _ _ hP hD hS _ (lv_sub hl [3, 4, 5, 1, 0] rfl) h
  · replace h := it_f c8 h
    refine lv_iload_n hx hb dX5_laws_11 rfl (lv_at hl 0 rfl) ?_
    exact rt_i (r := r3) C hP hD hS dX5_laws_12 (rw_end h)
def f_X5_laws (N : Nat) (x1 : Int32) (x2 : Int32) (M : Mem) : Option (Int32 × Mem) := b_X5_laws_0 N x1 x2 M
theorem c_X5_laws {l : Launch} {D : va_G} {cy : Nat → ClassId} {ad : Nat → Nat} {zz : (Nat → Nat) × (Nat → Nat)} {N : Nat} {x1 : Int32} {x2 : Int32} {M : Mem} {rr : Int32} {M' : Mem} (h : f_X5_laws N x1 x2 M = some (rr, M')) : CTi l D cy ad zz 0 82 yX5_laws (.code yX5_laws cX5_laws 6 (some .int) :: tb) ({ frames := 6, cells := 0, slots := 0, locals := 143 } : Room) [.ref (ad 0), .int x1, .int x2] M rr M' := by
  intro sz
  refine CX.of (by decide +kernel) (fun p e s m args below meth c H ls C hP hD hS hl => ?_) (Nat.le_of_ble_eq_true rfl)
  exact w_X5_laws_0 C hP hD hS hl h
theorem ev_X5_laws : yX5_laws.cls = RX5 ∧ yX5_laws.cls ≠ "java/lang/invoke/MethodHandle" ∧ yX5_laws.cls ≠ "java/lang/invoke/VarHandle" ∧ (parseMethodDescriptor yX5_laws.desc).map (fun d => d.parameters.length) = some 2 := by decide +kernel
def b_X5_film_52 (N : Nat) (x1 : Int32) (x2 : Int32) (x3 : Int32) : Nat → Nat → Int32 → Mem → Option (Int32 × Mem)
  | 0, _, _, _ => none
  | fu + 1, j4, x5, M => (if x3 ≤ x5 then some (x3, M) else (f_X5_theLaw M).bind fun r63 => gd (isK r63 3) (bd2 (f_X2_walk N 4 r63 ((FI M 1 1) + x5) (FJ M 1 0) M) fun r83 M83 => (f_X1_write j4 x5 (FI M83 4 2) M83).bind fun M98 => b_X5_film_52 N x1 x2 x3 fu j4 (x5 + (1 : Int32)) M98))
set_option maxHeartbeats 4000000 in
set_option maxRecDepth 100000 in
theorem w_X5_film_52 (C : CX p s m args meth c cX5_film 6 (some .int) RX5 D cy ad zz 0 82 A) {N : Nat} {x1 : Int32} {x2 : Int32} {x3 : Int32} {rr : Int32} {M' : Mem}  : ∀ (fu : Nat), ∀ (j4 : Nat), ∀ (x5 : Int32), kd j4 = 1 → ∀ (M : Mem), ∀ (H : Heap) (locs : List Loc), va_P D vwCl (pool cy ad 0 82 M) H → va_D A (pool cy ad 0 82 M) → va_S A s.heap H locs → ∀ (ls : Array Slot), lv_has ls 6 [(0, .ref (ad 0)), (3, .int x3), (4, .ref (ad j4)), (5, .int x5)] → b_X5_film_52 N x1 x2 x3 fu j4 x5 M = some (rr, M') → W p l e ({ frames := 5, cells := 0, slots := 0, locals := 120 } : Room) s m args below meth c H locs 0 0 (MQ below (va_Qi (fun (x : Int32) (_ : Unit) => x = rr) (fun _ t => PA D cy ad 0 82 A M' t) A) args s 0 0 A) (F0 m 52 ls []) := by
  obtain ⟨hx, hb, hml, hown, hts, hr, hlk, hK, hN, hA, hX⟩ := id C
  intro fu
  induction fu with
  | zero =>
    intro j4 x5 hk_j4 M H locs hP hD hS ls hl h
    exact no_some (show none = some _ from h)
  | succ fu ih =>
    intro j4 x5 hk_j4 M H locs hP hD hS ls hl h
    rw [b_X5_film_52] at h
    refine lv_iload hx hb dX5_film_52 (lv_at hl 3 rfl) ?_
    refine lv_iload_n hx hb dX5_film_54 rfl (lv_at hl 1 rfl) ?_
    refine lv_icmp_ge (tgt := 107) hx hb dX5_film_55 (by decide) (fun c55 => ?_) (fun c55 => ?_)
    · replace h := it_t c55 h
      refine lv_iload_n hx hb dX5_film_107 rfl (lv_at hl 1 rfl) ?_
      exact rt_i (r := x3) C hP hD hS dX5_film_108 (rw_end h)
    · replace h := it_f c55 h
      refine lv_aload_n hx hb dX5_film_58 rfl (lv_at hl 0 rfl) ?_
      refine gf_5_3 C hP (iL (by decide)) (by decide) wd_377 dX5_film_59 ?_
      refine lv_aload_n hx hb dX5_film_62 rfl (lv_at hl 0 rfl) ?_
      obtain ⟨r63, g63, h⟩ := bd_of h
      refine call_rV (As := []) (rest := [.ref (ad 4)]) C hP hD hS (c_X5_theLaw g63) (iL (by decide)) ⟨5, _, _, ent_5 (by decide), rfl, rfl⟩ (gV wd_459 wd_461 wd_13 wd_64 wd_462) ev_X5_theLaw ⟨rfl, rfl⟩ ⟨Nat.le_of_ble_eq_true rfl, Nat.le_of_ble_eq_true rfl⟩ hl.1 rfl (Nat.le_of_ble_eq_true rfl) dX5_film_63 (fun H locs hP hD hS => ?_)
      refine lv_aload_n hx hb dX5_film_66 rfl (lv_at hl 0 rfl) ?_
      refine gf_5_0 C hP (iL (by decide)) (by decide) wd_374 dX5_film_67 ?_
      refine gf_4_1 C hP (iL (by decide)) (by decide) wd_145 dX5_film_70 ?_
      refine lv_iload hx hb dX5_film_73 (lv_at hl 3 rfl) ?_
      refine lv_iadd hx hb dX5_film_75 ?_
      refine lv_aload_n hx hb dX5_film_76 rfl (lv_at hl 0 rfl) ?_
      refine gf_5_0 C hP (iL (by decide)) (by decide) wd_374 dX5_film_77 ?_
      refine gf_4_0 C hP (iL (by decide)) (by decide) wd_143 dX5_film_80 ?_
      obtain ⟨gk1, h⟩ := gd_of h
      obtain ⟨r83, M83, g83, h⟩ := bd2_of h
      refine call_iV (As := [.ref (ad r63), .int ((FI M 1 1) + x5), .long (FJ M 1 0)]) (rest := []) C hP hD hS (c_X2_walk (by decide) (isK_of gk1) g83) (iL (by decide)) ⟨2, _, _, ent_2 (by decide), rfl, rfl⟩ (gV wd_657 wd_594 wd_595 wd_66 wd_596) ev_X2_walk ⟨rfl, rfl⟩ ⟨Nat.le_of_ble_eq_true rfl, Nat.le_of_ble_eq_true rfl⟩ hl.1 rfl (Nat.le_of_ble_eq_true rfl) dX5_film_83 (fun H locs hP hD hS => ?_)
      refine lv_pop hx hb dX5_film_86 rfl ?_
      refine lv_aload hx hb dX5_film_87 (lv_at hl 2 rfl) ?_
      refine lv_iload hx hb dX5_film_89 (lv_at hl 3 rfl) ?_
      refine lv_aload_n hx hb dX5_film_91 rfl (lv_at hl 0 rfl) ?_
      refine gf_5_3 C hP (iL (by decide)) (by decide) wd_377 dX5_film_92 ?_
      refine gf_2_2 C hP (iL (by decide)) (by decide) wd_106 dX5_film_95 ?_
      obtain ⟨M98, g98, h⟩ := bd_of h
      refine call_vV (As := [.int x5, .int (FI M83 4 2)]) (rest := []) C hP hD hS (c_X1_write hk_j4 g98) (p_1 hk_j4) ⟨1, _, _, ent_1 hk_j4, rfl, rfl⟩ (gV wd_771 wd_772 wd_773 wd_68 wd_774) ev_X1_write ⟨rfl, rfl⟩ ⟨Nat.le_of_ble_eq_true rfl, Nat.le_of_ble_eq_true rfl⟩ hl.1 rfl (Nat.le_of_ble_eq_true rfl) dX5_film_98 (fun H locs hP hD hS => ?_)
      refine lv_iinc (v := (x5 + (1 : Int32))) (lv' := [(5, .int (x5 + (1 : Int32))), (0, .ref (ad 0)), (3, .int x3), (4, .ref (ad j4))]) hx hb dX5_film_101 hl (k := 3) rfl rfl (by decide) rfl (fun ls hl => ?_)
      refine lv_goto (tgt := 52) hx hb dX5_film_104 (by decide) ?_
      exact ih _ _ hk_j4 _ _ _ hP hD hS _ (lv_sub hl [1, 2, 3, 0] rfl) h
def b_X5_film_0 (N : Nat) (x1 : Int32) (x2 : Int32) (x3 : Int32) (M : Mem) : Option (Int32 × Mem) := (f_X5_isSheet x1 M).bind fun r1 => (if r1 = true then bd2 (f_X5_beginThought x2 M) fun r12 M12 => (if r12 = true then (if x3 < 0 then some ((-7 : Int32), M12) else (if x3 ≤ (20 : Int32) then gd (inb x1 (len 73)) (gd (isK (AR 73 x1.toNatClampNeg) 1) ((f_X1_becomeRow N (AR 73 x1.toNatClampNeg) (0 : Int32) x3 M12).bind fun M46 => b_X5_film_52 N x1 x2 x3 N (AR 73 x1.toNatClampNeg) (0 : Int32) M46)) else some ((-7 : Int32), M12))) else some ((-5 : Int32), M12)) else some ((-2 : Int32), M))
set_option maxHeartbeats 4000000 in
set_option maxRecDepth 100000 in
theorem w_X5_film_0 (C : CX p s m args meth c cX5_film 6 (some .int) RX5 D cy ad zz 0 82 A) {N : Nat} {M : Mem} {x1 : Int32} {x2 : Int32} {x3 : Int32} {rr : Int32} {M' : Mem} {H : Heap} {locs : List Loc} (hP : va_P D vwCl (pool cy ad 0 82 M) H) (hD : va_D A (pool cy ad 0 82 M)) (hS : va_S A s.heap H locs) {ls : Array Slot} (hl : lv_has ls 6 [(0, .ref (ad 0)), (1, .int x1), (2, .int x2), (3, .int x3)]) (h : b_X5_film_0 N x1 x2 x3 M = some (rr, M')) : W p l e ({ frames := 5, cells := 0, slots := 0, locals := 120 } : Room) s m args below meth c H locs 0 0 (MQ below (va_Qi (fun (x : Int32) (_ : Unit) => x = rr) (fun _ t => PA D cy ad 0 82 A M' t) A) args s 0 0 A) (F0 m 0 ls []) := by
  obtain ⟨hx, hb, hml, hown, hts, hr, hlk, hK, hN, hA, hX⟩ := id C
  unfold b_X5_film_0 at h
  refine lv_iload_n hx hb dX5_film_0 rfl (lv_at hl 1 rfl) ?_
  obtain ⟨r1, g1, h⟩ := bd_of h
  refine call_iS (As := [.int x1]) (rest := []) C hP hD hS (c_X5_isSheet g1) (gS wd_556 wd_557 wd_64 wd_558) es_X5_isSheet ⟨rfl, rfl⟩ ⟨Nat.le_of_ble_eq_true rfl, Nat.le_of_ble_eq_true rfl⟩ hl.1 rfl (Nat.le_of_ble_eq_true rfl) dX5_film_1 (fun H locs hP hD hS => ?_)
  refine lv_if_ne (tgt := 10) hx hb dX5_film_4 (by decide) (fun c4 => ?_) (fun c4 => ?_)
  · replace h := it_t (b2i_1 c4) h
    refine lv_aload_n hx hb dX5_film_10 rfl (lv_at hl 0 rfl) ?_
    refine lv_iload_n hx hb dX5_film_11 rfl (lv_at hl 2 rfl) ?_
    obtain ⟨r12, M12, g12, h⟩ := bd2_of h
    refine call_iV (As := [.int x2]) (rest := []) C hP hD hS (c_X5_beginThought g12) (iL (by decide)) ⟨5, _, _, ent_5 (by decide), rfl, rfl⟩ (gV wd_648 wd_650 wd_21 wd_64 wd_651) ev_X5_beginThought ⟨rfl, rfl⟩ ⟨Nat.le_of_ble_eq_true rfl, Nat.le_of_ble_eq_true rfl⟩ hl.1 rfl (Nat.le_of_ble_eq_true rfl) dX5_film_12 (fun H locs hP hD hS => ?_)
    refine lv_if_ne (tgt := 21) hx hb dX5_film_15 (by decide) (fun c15 => ?_) (fun c15 => ?_)
    · replace h := it_t (b2i_1 c15) h
      refine lv_iload_n hx hb dX5_film_21 rfl (lv_at hl 3 rfl) ?_
      refine lv_if_lt (tgt := 31) hx hb dX5_film_22 (by decide) (fun c22 => ?_) (fun c22 => ?_)
      · replace h := it_t c22 h
        refine lv_bipush (v := -7) hx hb dX5_film_31 (by decide) ?_
        exact rt_i (r := (-7 : Int32)) C hP hD hS dX5_film_33 (rw_end h)
      · replace h := it_f c22 h
        refine lv_iload_n hx hb dX5_film_25 rfl (lv_at hl 3 rfl) ?_
        refine lv_bipush (v := 20) hx hb dX5_film_26 (by decide) ?_
        refine lv_icmp_le (tgt := 34) hx hb dX5_film_28 (by decide) (fun c28 => ?_) (fun c28 => ?_)
        · replace h := it_t c28 h
          refine lv_aload_n hx hb dX5_film_34 rfl (lv_at hl 0 rfl) ?_
          refine gf_5_7 C hP (iL (by decide)) (by decide) wd_381 dX5_film_35 ?_
          refine lv_iload_n hx hb dX5_film_38 rfl (lv_at hl 1 rfl) ?_
          obtain ⟨gi1, h⟩ := gd_of h
          refine aa_9 C hP (iL (by decide)) (by decide) gi1 dX5_film_39 ?_
          refine lv_astore (lv' := [(4, .ref (ad (AR 73 x1.toNatClampNeg))), (0, .ref (ad 0)), (1, .int x1), (2, .int x2), (3, .int x3)]) hx hb dX5_film_40 hl (by decide) rfl (fun ls hl => ?_)
          refine lv_aload hx hb dX5_film_42 (lv_at hl 0 rfl) ?_
          refine lv_iconst (v := 0) hx hb dX5_film_44 (by decide) ?_
          refine lv_iload_n hx hb dX5_film_45 rfl (lv_at hl 4 rfl) ?_
          obtain ⟨gk2, h⟩ := gd_of h
          obtain ⟨M46, g46, h⟩ := bd_of h
          refine call_vV (As := [.int (0 : Int32), .int x3]) (rest := []) C hP hD hS (c_X1_becomeRow (isK_of gk2) g46) (p_1 (isK_of gk2)) ⟨1, _, _, ent_1 (isK_of gk2), rfl, rfl⟩ (gV wd_762 wd_763 wd_764 wd_68 wd_765) ev_X1_becomeRow ⟨rfl, rfl⟩ ⟨Nat.le_of_ble_eq_true rfl, Nat.le_of_ble_eq_true rfl⟩ hl.1 rfl (Nat.le_of_ble_eq_true rfl) dX5_film_46 (fun H locs hP hD hS => ?_)
          refine lv_iconst (v := 0) hx hb dX5_film_49 (by decide) ?_
          refine lv_istore (lv' := [(5, .int (0 : Int32)), (4, .ref (ad (AR 73 x1.toNatClampNeg))), (0, .ref (ad 0)), (1, .int x1), (2, .int x2), (3, .int x3)]) hx hb dX5_film_50 hl (by decide) rfl (fun ls hl => ?_)
          exact w_X5_film_52 C N _ _ (isK_of gk2) _ _ _ hP hD hS _ (lv_sub hl [2, 5, 1, 0] rfl) h
        · replace h := it_f c28 h
          refine lv_bipush (v := -7) hx hb dX5_film_31 (by decide) ?_
          exact rt_i (r := (-7 : Int32)) C hP hD hS dX5_film_33 (rw_end h)
    · replace h := it_f (b2i_n c15) h
      refine lv_bipush (v := -5) hx hb dX5_film_18 (by decide) ?_
      exact rt_i (r := (-5 : Int32)) C hP hD hS dX5_film_20 (rw_end h)
  · replace h := it_f (b2i_n c4) h
    refine lv_bipush (v := -2) hx hb dX5_film_7 (by decide) ?_
    exact rt_i (r := (-2 : Int32)) C hP hD hS dX5_film_9 (rw_end h)
def f_X5_film (N : Nat) (x1 : Int32) (x2 : Int32) (x3 : Int32) (M : Mem) : Option (Int32 × Mem) := b_X5_film_0 N x1 x2 x3 M
theorem c_X5_film {l : Launch} {D : va_G} {cy : Nat → ClassId} {ad : Nat → Nat} {zz : (Nat → Nat) × (Nat → Nat)} {N : Nat} {x1 : Int32} {x2 : Int32} {x3 : Int32} {M : Mem} {rr : Int32} {M' : Mem} (h : f_X5_film N x1 x2 x3 M = some (rr, M')) : CTi l D cy ad zz 0 82 yX5_film (.code yX5_film cX5_film 6 (some .int) :: tb) ({ frames := 5, cells := 0, slots := 0, locals := 120 } : Room) [.ref (ad 0), .int x1, .int x2, .int x3] M rr M' := by
  intro sz
  refine CX.of (by decide +kernel) (fun p e s m args below meth c H ls C hP hD hS hl => ?_) (Nat.le_of_ble_eq_true rfl)
  exact w_X5_film_0 C hP hD hS hl h
theorem ev_X5_film : yX5_film.cls = RX5 ∧ yX5_film.cls ≠ "java/lang/invoke/MethodHandle" ∧ yX5_film.cls ≠ "java/lang/invoke/VarHandle" ∧ (parseMethodDescriptor yX5_film.desc).map (fun d => d.parameters.length) = some 3 := by decide +kernel
def b_X5_passFloods_59 (N : Nat) (x1 : Int32) (k22 : Int64 → Int32 → Int32 → Mem → Option (Int32 × Mem)) (y2 : Int64) (x4 : Int32) (x5 : Int32) (M : Mem) : Option (Int32 × Mem) := (f_X5_theLaw M).bind fun r66 => gd (isK r66 3) (bd2 (f_X4_pass N 2 r66 M) fun r69 M69 => k22 y2 (x4 + r69) (x5 + (1 : Int32)) M69)
set_option maxHeartbeats 4000000 in
set_option maxRecDepth 100000 in
theorem w_X5_passFloods_59 (C : CX p s m args meth c cX5_passFloods 6 (some .int) RX5 D cy ad zz 0 82 A) {N : Nat} {M : Mem} {x1 : Int32} {k22 : Int64 → Int32 → Int32 → Mem → Option (Int32 × Mem)} {rr : Int32} {M' : Mem} (hk22 : ∀ (y2 : Int64), ∀ (x4 : Int32), ∀ (x5 : Int32), ∀ (M : Mem), ∀ (H : Heap) (locs : List Loc), va_P D vwCl (pool cy ad 0 82 M) H → va_D A (pool cy ad 0 82 M) → va_S A s.heap H locs → ∀ (ls : Array Slot), lv_has ls 6 [(0, .ref (ad 0)), (2, .long y2), (4, .int x4), (5, .int x5)] → k22 y2 x4 x5 M = some (rr, M') → W p l e ({ frames := 6, cells := 0, slots := 0, locals := 143 } : Room) s m args below meth c H locs 0 0 (MQ below (va_Qi (fun (x : Int32) (_ : Unit) => x = rr) (fun _ t => PA D cy ad 0 82 A M' t) A) args s 0 0 A) (F0 m 22 ls [])) {y2 : Int64} {x4 : Int32} {x5 : Int32} {H : Heap} {locs : List Loc} (hP : va_P D vwCl (pool cy ad 0 82 M) H) (hD : va_D A (pool cy ad 0 82 M)) (hS : va_S A s.heap H locs) {ls : Array Slot} (hl : lv_has ls 6 [(0, .ref (ad 0)), (2, .long y2), (4, .int x4), (5, .int x5)]) (h : b_X5_passFloods_59 N x1 k22 y2 x4 x5 M = some (rr, M')) : W p l e ({ frames := 6, cells := 0, slots := 0, locals := 143 } : Room) s m args below meth c H locs 0 0 (MQ below (va_Qi (fun (x : Int32) (_ : Unit) => x = rr) (fun _ t => PA D cy ad 0 82 A M' t) A) args s 0 0 A) (F0 m 59 ls []) := by
  obtain ⟨hx, hb, hml, hown, hts, hr, hlk, hK, hN, hA, hX⟩ := id C
  unfold b_X5_passFloods_59 at h
  refine lv_iload hx hb dX5_passFloods_59 (lv_at hl 2 rfl) ?_
  refine lv_aload_n hx hb dX5_passFloods_61 rfl (lv_at hl 0 rfl) ?_
  refine gf_5_1 C hP (iL (by decide)) (by decide) wd_375 dX5_passFloods_62 ?_
  refine lv_aload_n hx hb dX5_passFloods_65 rfl (lv_at hl 0 rfl) ?_
  obtain ⟨r66, g66, h⟩ := bd_of h
  refine call_rV (As := []) (rest := [.ref (ad 2), .int x4]) C hP hD hS (c_X5_theLaw g66) (iL (by decide)) ⟨5, _, _, ent_5 (by decide), rfl, rfl⟩ (gV wd_459 wd_461 wd_13 wd_64 wd_462) ev_X5_theLaw ⟨rfl, rfl⟩ ⟨Nat.le_of_ble_eq_true rfl, Nat.le_of_ble_eq_true rfl⟩ hl.1 rfl (Nat.le_of_ble_eq_true rfl) dX5_passFloods_66 (fun H locs hP hD hS => ?_)
  obtain ⟨gk1, h⟩ := gd_of h
  obtain ⟨r69, M69, g69, h⟩ := bd2_of h
  refine call_iV (As := [.ref (ad r66)]) (rest := [.int x4]) C hP hD hS (c_X4_pass (by decide) (isK_of gk1) g69) (iL (by decide)) ⟨4, _, _, ent_4 (by decide), rfl, rfl⟩ (gV wd_589 wd_590 wd_591 wd_65 wd_592) ev_X4_pass ⟨rfl, rfl⟩ ⟨Nat.le_of_ble_eq_true rfl, Nat.le_of_ble_eq_true rfl⟩ hl.1 rfl (Nat.le_of_ble_eq_true rfl) dX5_passFloods_69 (fun H locs hP hD hS => ?_)
  refine lv_iadd hx hb dX5_passFloods_72 ?_
  refine lv_istore (lv' := [(4, .int (x4 + r69)), (0, .ref (ad 0)), (2, .long y2), (5, .int x5)]) hx hb dX5_passFloods_73 hl (by decide) rfl (fun ls hl => ?_)
  refine lv_iinc (v := (x5 + (1 : Int32))) (lv' := [(5, .int (x5 + (1 : Int32))), (4, .int (x4 + r69)), (0, .ref (ad 0)), (2, .long y2)]) hx hb dX5_passFloods_75 hl (k := 3) rfl rfl (by decide) rfl (fun ls hl => ?_)
  refine lv_goto (tgt := 22) hx hb dX5_passFloods_78 (by decide) ?_
  exact hk22 _ _ _ _ _ _ hP hD hS _ (lv_sub hl [2, 3, 1, 0] rfl) h
def b_X5_passFloods_39 (N : Nat) (x1 : Int32) (k22 : Int64 → Int32 → Int32 → Mem → Option (Int32 × Mem)) (y2 : Int64) (x4 : Int32) (x5 : Int32) (M : Mem) : Option (Int32 × Mem) := b_X5_passFloods_59 N x1 k22 y2 x4 x5 (sFJ M 2 0 ((FJ M 2 0) ^^^ ((1 : Int64) <<< (((y2 - y2 / (64 : Int64) * (64 : Int64)).toInt32).toInt64 &&& 63))))
set_option maxHeartbeats 4000000 in
set_option maxRecDepth 100000 in
theorem w_X5_passFloods_39 (C : CX p s m args meth c cX5_passFloods 6 (some .int) RX5 D cy ad zz 0 82 A) {N : Nat} {M : Mem} {x1 : Int32} {k22 : Int64 → Int32 → Int32 → Mem → Option (Int32 × Mem)} {rr : Int32} {M' : Mem} (hk22 : ∀ (y2 : Int64), ∀ (x4 : Int32), ∀ (x5 : Int32), ∀ (M : Mem), ∀ (H : Heap) (locs : List Loc), va_P D vwCl (pool cy ad 0 82 M) H → va_D A (pool cy ad 0 82 M) → va_S A s.heap H locs → ∀ (ls : Array Slot), lv_has ls 6 [(0, .ref (ad 0)), (2, .long y2), (4, .int x4), (5, .int x5)] → k22 y2 x4 x5 M = some (rr, M') → W p l e ({ frames := 6, cells := 0, slots := 0, locals := 143 } : Room) s m args below meth c H locs 0 0 (MQ below (va_Qi (fun (x : Int32) (_ : Unit) => x = rr) (fun _ t => PA D cy ad 0 82 A M' t) A) args s 0 0 A) (F0 m 22 ls [])) {y2 : Int64} {x4 : Int32} {x5 : Int32} {H : Heap} {locs : List Loc} (hP : va_P D vwCl (pool cy ad 0 82 M) H) (hD : va_D A (pool cy ad 0 82 M)) (hS : va_S A s.heap H locs) {ls : Array Slot} (hl : lv_has ls 6 [(0, .ref (ad 0)), (2, .long y2), (4, .int x4), (5, .int x5)]) (h : b_X5_passFloods_39 N x1 k22 y2 x4 x5 M = some (rr, M')) : W p l e ({ frames := 6, cells := 0, slots := 0, locals := 143 } : Room) s m args below meth c H locs 0 0 (MQ below (va_Qi (fun (x : Int32) (_ : Unit) => x = rr) (fun _ t => PA D cy ad 0 82 A M' t) A) args s 0 0 A) (F0 m 39 ls []) := by
  obtain ⟨hx, hb, hml, hown, hts, hr, hlk, hK, hN, hA, hX⟩ := id C
  unfold b_X5_passFloods_39 at h
  refine lv_aload_n hx hb dX5_passFloods_39 rfl (lv_at hl 0 rfl) ?_
  refine gf_5_1 C hP (iL (by decide)) (by decide) wd_375 dX5_passFloods_40 ?_
  refine lv_dup hx hb dX5_passFloods_43 rfl ?_
  refine gf_4_0 C hP (iL (by decide)) (by decide) wd_143 dX5_passFloods_44 ?_
  refine lv_lconst (v := 1) hx hb dX5_passFloods_47 (by decide) ?_
  refine lv_lload_n hx hb dX5_passFloods_48 rfl (lv_at hl 1 rfl) ?_
  refine lv_ldc2 hx hb hown (hts _ wd_710) dX5_passFloods_49 ?_
  refine lv_lrem hx hb dX5_passFloods_52 (by decide) ?_
  refine lv_l2i (v := ((y2 - y2 / (64 : Int64) * (64 : Int64)).toInt32)) hx hb dX5_passFloods_53 rfl ?_
  refine lv_lshl (v := ((1 : Int64) <<< (((y2 - y2 / (64 : Int64) * (64 : Int64)).toInt32).toInt64 &&& 63))) hx hb dX5_passFloods_54 rfl ?_
  refine lv_lxor hx hb dX5_passFloods_55 ?_
  refine pf_4_0 C hP hD hS (iL (by decide)) (by decide) wd_143 dX5_passFloods_56 (fun H locs hP hD hS => ?_)
  exact w_X5_passFloods_59 C hk22 hP hD hS hl h
def b_X5_passFloods_22 (N : Nat) (x1 : Int32) : Nat → Int64 → Int32 → Int32 → Mem → Option (Int32 × Mem)
  | 0, _, _, _, _ => none
  | fu + 1, y2, x4, x5, M => (if (8 : Int32) ≤ x5 then some (x4, M) else b_X5_passFloods_39 N x1 (b_X5_passFloods_22 N x1 fu) ((y2 * (48271 : Int64)) - (y2 * (48271 : Int64)) / (2147483647 : Int64) * (2147483647 : Int64)) x4 x5 M)
set_option maxHeartbeats 4000000 in
set_option maxRecDepth 100000 in
theorem w_X5_passFloods_22 (C : CX p s m args meth c cX5_passFloods 6 (some .int) RX5 D cy ad zz 0 82 A) {N : Nat} {x1 : Int32} {rr : Int32} {M' : Mem}  : ∀ (fu : Nat), ∀ (y2 : Int64), ∀ (x4 : Int32), ∀ (x5 : Int32), ∀ (M : Mem), ∀ (H : Heap) (locs : List Loc), va_P D vwCl (pool cy ad 0 82 M) H → va_D A (pool cy ad 0 82 M) → va_S A s.heap H locs → ∀ (ls : Array Slot), lv_has ls 6 [(0, .ref (ad 0)), (2, .long y2), (4, .int x4), (5, .int x5)] → b_X5_passFloods_22 N x1 fu y2 x4 x5 M = some (rr, M') → W p l e ({ frames := 6, cells := 0, slots := 0, locals := 143 } : Room) s m args below meth c H locs 0 0 (MQ below (va_Qi (fun (x : Int32) (_ : Unit) => x = rr) (fun _ t => PA D cy ad 0 82 A M' t) A) args s 0 0 A) (F0 m 22 ls []) := by
  obtain ⟨hx, hb, hml, hown, hts, hr, hlk, hK, hN, hA, hX⟩ := id C
  intro fu
  induction fu with
  | zero =>
    intro y2 x4 x5 M H locs hP hD hS ls hl h
    exact no_some (show none = some _ from h)
  | succ fu ih =>
    intro y2 x4 x5 M H locs hP hD hS ls hl h
    rw [b_X5_passFloods_22] at h
    refine lv_iload hx hb dX5_passFloods_22 (lv_at hl 3 rfl) ?_
    refine lv_bipush (v := 8) hx hb dX5_passFloods_24 (by decide) ?_
    refine lv_icmp_ge (tgt := 81) hx hb dX5_passFloods_26 (by decide) (fun c26 => ?_) (fun c26 => ?_)
    · replace h := it_t c26 h
      refine lv_iload hx hb dX5_passFloods_81 (lv_at hl 2 rfl) ?_
      exact rt_i (r := x4) C hP hD hS dX5_passFloods_83 (rw_end h)
    · replace h := it_f c26 h
      refine lv_lload_n hx hb dX5_passFloods_29 rfl (lv_at hl 1 rfl) ?_
      refine lv_ldc2 hx hb hown (hts _ wd_784) dX5_passFloods_30 ?_
      refine lv_lmul hx hb dX5_passFloods_33 ?_
      refine lv_ldc2 hx hb hown (hts _ wd_785) dX5_passFloods_34 ?_
      refine lv_lrem hx hb dX5_passFloods_37 (by decide) ?_
      refine lv_lstore_n (lv' := [(2, .long ((y2 * (48271 : Int64)) - (y2 * (48271 : Int64)) / (2147483647 : Int64) * (2147483647 : Int64))), (0, .ref (ad 0)), (4, .int x4), (5, .int x5)]) hx hb dX5_passFloods_38 rfl hl (by decide) rfl (fun ls hl => ?_)
      exact w_X5_passFloods_39 C ih hP hD hS (lv_sub hl [1, 0, 2, 3] rfl) h
def b_X5_passFloods_0 (N : Nat) (x1 : Int32) (M : Mem) : Option (Int32 × Mem) := (f_X4_becomeAs N 2 1 M).bind fun M8 => b_X5_passFloods_22 N x1 N ((x1.toInt64) + (1 : Int64)) (0 : Int32) (0 : Int32) M8
set_option maxHeartbeats 4000000 in
set_option maxRecDepth 100000 in
theorem w_X5_passFloods_0 (C : CX p s m args meth c cX5_passFloods 6 (some .int) RX5 D cy ad zz 0 82 A) {N : Nat} {M : Mem} {x1 : Int32} {rr : Int32} {M' : Mem} {H : Heap} {locs : List Loc} (hP : va_P D vwCl (pool cy ad 0 82 M) H) (hD : va_D A (pool cy ad 0 82 M)) (hS : va_S A s.heap H locs) {ls : Array Slot} (hl : lv_has ls 6 [(0, .ref (ad 0)), (1, .int x1)]) (h : b_X5_passFloods_0 N x1 M = some (rr, M')) : W p l e ({ frames := 6, cells := 0, slots := 0, locals := 143 } : Room) s m args below meth c H locs 0 0 (MQ below (va_Qi (fun (x : Int32) (_ : Unit) => x = rr) (fun _ t => PA D cy ad 0 82 A M' t) A) args s 0 0 A) (F0 m 0 ls []) := by
  obtain ⟨hx, hb, hml, hown, hts, hr, hlk, hK, hN, hA, hX⟩ := id C
  unfold b_X5_passFloods_0 at h
  refine lv_aload_n hx hb dX5_passFloods_0 rfl (lv_at hl 0 rfl) ?_
  refine gf_5_1 C hP (iL (by decide)) (by decide) wd_375 dX5_passFloods_1 ?_
  refine lv_aload_n hx hb dX5_passFloods_4 rfl (lv_at hl 0 rfl) ?_
  refine gf_5_0 C hP (iL (by decide)) (by decide) wd_374 dX5_passFloods_5 ?_
  obtain ⟨M8, g8, h⟩ := bd_of h
  refine call_vV (As := [.ref (ad 1)]) (rest := []) C hP hD hS (c_X4_becomeAs (by decide) (by decide) g8) (iL (by decide)) ⟨4, _, _, ent_4 (by decide), rfl, rfl⟩ (gV wd_615 wd_616 wd_617 wd_65 wd_618) ev_X4_becomeAs ⟨rfl, rfl⟩ ⟨Nat.le_of_ble_eq_true rfl, Nat.le_of_ble_eq_true rfl⟩ hl.1 rfl (Nat.le_of_ble_eq_true rfl) dX5_passFloods_8 (fun H locs hP hD hS => ?_)
  refine lv_iload_n hx hb dX5_passFloods_11 rfl (lv_at hl 1 rfl) ?_
  refine lv_i2l (v := (x1.toInt64)) hx hb dX5_passFloods_12 rfl ?_
  refine lv_lconst (v := 1) hx hb dX5_passFloods_13 (by decide) ?_
  refine lv_ladd hx hb dX5_passFloods_14 ?_
  refine lv_lstore_n (lv' := [(2, .long ((x1.toInt64) + (1 : Int64))), (0, .ref (ad 0)), (1, .int x1)]) hx hb dX5_passFloods_15 rfl hl (by decide) rfl (fun ls hl => ?_)
  refine lv_iconst (v := 0) hx hb dX5_passFloods_16 (by decide) ?_
  refine lv_istore (lv' := [(4, .int (0 : Int32)), (2, .long ((x1.toInt64) + (1 : Int64))), (0, .ref (ad 0)), (1, .int x1)]) hx hb dX5_passFloods_17 hl (by decide) rfl (fun ls hl => ?_)
  refine lv_iconst (v := 0) hx hb dX5_passFloods_19 (by decide) ?_
  refine lv_istore (lv' := [(5, .int (0 : Int32)), (4, .int (0 : Int32)), (2, .long ((x1.toInt64) + (1 : Int64))), (0, .ref (ad 0)), (1, .int x1)]) hx hb dX5_passFloods_20 hl (by decide) rfl (fun ls hl => ?_)
  exact w_X5_passFloods_22 C N _ _ _ _ _ _ hP hD hS _ (lv_sub hl [3, 2, 1, 0] rfl) h
def f_X5_passFloods (N : Nat) (x1 : Int32) (M : Mem) : Option (Int32 × Mem) := b_X5_passFloods_0 N x1 M
theorem c_X5_passFloods {l : Launch} {D : va_G} {cy : Nat → ClassId} {ad : Nat → Nat} {zz : (Nat → Nat) × (Nat → Nat)} {N : Nat} {x1 : Int32} {M : Mem} {rr : Int32} {M' : Mem} (h : f_X5_passFloods N x1 M = some (rr, M')) : CTi l D cy ad zz 0 82 yX5_passFloods (.code yX5_passFloods cX5_passFloods 6 (some .int) :: tb) ({ frames := 6, cells := 0, slots := 0, locals := 143 } : Room) [.ref (ad 0), .int x1] M rr M' := by
  intro sz
  refine CX.of (by decide +kernel) (fun p e s m args below meth c H ls C hP hD hS hl => ?_) (Nat.le_of_ble_eq_true rfl)
  exact w_X5_passFloods_0 C hP hD hS hl h
theorem ev_X5_passFloods : yX5_passFloods.cls = RX5 ∧ yX5_passFloods.cls ≠ "java/lang/invoke/MethodHandle" ∧ yX5_passFloods.cls ≠ "java/lang/invoke/VarHandle" ∧ (parseMethodDescriptor yX5_passFloods.desc).map (fun d => d.parameters.length) = some 1 := by decide +kernel
def b_X5_drawn_23 (N : Nat) (x1 : Int32) (x2 : Int32) (M : Mem) : Option (Int32 × Mem) := bd2 (f_X5_passFloods N x1 M) fun r25 M25 => (if x2 = 0 then some (r25, M25) else (f_X4_twos N 2 M25).bind fun r41 => some (r41, M25))
set_option maxHeartbeats 4000000 in
set_option maxRecDepth 100000 in
theorem w_X5_drawn_23 (C : CX p s m args meth c cX5_drawn 4 (some .int) RX5 D cy ad zz 0 82 A) {N : Nat} {M : Mem} {x1 : Int32} {x2 : Int32} {rr : Int32} {M' : Mem} {H : Heap} {locs : List Loc} (hP : va_P D vwCl (pool cy ad 0 82 M) H) (hD : va_D A (pool cy ad 0 82 M)) (hS : va_S A s.heap H locs) {ls : Array Slot} (hl : lv_has ls 4 [(0, .ref (ad 0)), (1, .int x1), (2, .int x2)]) (h : b_X5_drawn_23 N x1 x2 M = some (rr, M')) : W p l e ({ frames := 7, cells := 0, slots := 0, locals := 168 } : Room) s m args below meth c H locs 0 0 (MQ below (va_Qi (fun (x : Int32) (_ : Unit) => x = rr) (fun _ t => PA D cy ad 0 82 A M' t) A) args s 0 0 A) (F0 m 23 ls []) := by
  obtain ⟨hx, hb, hml, hown, hts, hr, hlk, hK, hN, hA, hX⟩ := id C
  unfold b_X5_drawn_23 at h
  refine lv_aload_n hx hb dX5_drawn_23 rfl (lv_at hl 0 rfl) ?_
  refine lv_iload_n hx hb dX5_drawn_24 rfl (lv_at hl 1 rfl) ?_
  obtain ⟨r25, M25, g25, h⟩ := bd2_of h
  refine call_iV (As := [.int x1]) (rest := []) C hP hD hS (c_X5_passFloods g25) (iL (by decide)) ⟨5, _, _, ent_5 (by decide), rfl, rfl⟩ (gV wd_780 wd_782 wd_28 wd_64 wd_783) ev_X5_passFloods ⟨rfl, rfl⟩ ⟨Nat.le_of_ble_eq_true rfl, Nat.le_of_ble_eq_true rfl⟩ hl.1 rfl (Nat.le_of_ble_eq_true rfl) dX5_drawn_25 (fun H locs hP hD hS => ?_)
  refine lv_istore_n (lv' := [(3, .int r25), (0, .ref (ad 0)), (1, .int x1), (2, .int x2)]) hx hb dX5_drawn_28 rfl hl (by decide) rfl (fun ls hl => ?_)
  refine lv_iload_n hx hb dX5_drawn_29 rfl (lv_at hl 3 rfl) ?_
  refine lv_if_ne (tgt := 37) hx hb dX5_drawn_30 (by decide) (fun c30 => ?_) (fun c30 => ?_)
  · replace h := it_f c30 h
    refine lv_aload_n hx hb dX5_drawn_37 rfl (lv_at hl 1 rfl) ?_
    refine gf_5_1 C hP (iL (by decide)) (by decide) wd_375 dX5_drawn_38 ?_
    obtain ⟨r41, g41, h⟩ := bd_of h
    refine call_iV (As := []) (rest := []) C hP hD hS (c_X4_twos (by decide) g41) (iL (by decide)) ⟨4, _, _, ent_4 (by decide), rfl, rfl⟩ (gV wd_635 wd_636 wd_637 wd_65 wd_638) ev_X4_twos ⟨rfl, rfl⟩ ⟨Nat.le_of_ble_eq_true rfl, Nat.le_of_ble_eq_true rfl⟩ hl.1 rfl (Nat.le_of_ble_eq_true rfl) dX5_drawn_41 (fun H locs hP hD hS => ?_)
    exact rt_i (r := r41) C hP hD hS dX5_drawn_44 (rw_end h)
  · replace h := it_t c30 h
    refine lv_iload_n hx hb dX5_drawn_33 rfl (lv_at hl 0 rfl) ?_
    refine lv_goto (tgt := 44) hx hb dX5_drawn_34 (by decide) ?_
    exact rt_i (r := r25) C hP hD hS dX5_drawn_44 (rw_end h)
def b_X5_drawn_0 (N : Nat) (x1 : Int32) (x2 : Int32) (M : Mem) : Option (Int32 × Mem) := (if x1 < 0 then some ((-2 : Int32), M) else (if (100000 : Int32) ≤ x1 then some ((-2 : Int32), M) else (if x2 = 0 then b_X5_drawn_23 N x1 x2 M else (if x2 = (1 : Int32) then b_X5_drawn_23 N x1 x2 M else some ((-2 : Int32), M)))))
set_option maxHeartbeats 4000000 in
set_option maxRecDepth 100000 in
theorem w_X5_drawn_0 (C : CX p s m args meth c cX5_drawn 4 (some .int) RX5 D cy ad zz 0 82 A) {N : Nat} {M : Mem} {x1 : Int32} {x2 : Int32} {rr : Int32} {M' : Mem} {H : Heap} {locs : List Loc} (hP : va_P D vwCl (pool cy ad 0 82 M) H) (hD : va_D A (pool cy ad 0 82 M)) (hS : va_S A s.heap H locs) {ls : Array Slot} (hl : lv_has ls 4 [(0, .ref (ad 0)), (1, .int x1), (2, .int x2)]) (h : b_X5_drawn_0 N x1 x2 M = some (rr, M')) : W p l e ({ frames := 7, cells := 0, slots := 0, locals := 168 } : Room) s m args below meth c H locs 0 0 (MQ below (va_Qi (fun (x : Int32) (_ : Unit) => x = rr) (fun _ t => PA D cy ad 0 82 A M' t) A) args s 0 0 A) (F0 m 0 ls []) := by
  obtain ⟨hx, hb, hml, hown, hts, hr, hlk, hK, hN, hA, hX⟩ := id C
  unfold b_X5_drawn_0 at h
  refine lv_iload_n hx hb dX5_drawn_0 rfl (lv_at hl 1 rfl) ?_
  refine lv_if_lt (tgt := 20) hx hb dX5_drawn_1 (by decide) (fun c1 => ?_) (fun c1 => ?_)
  · replace h := it_t c1 h
    refine lv_bipush (v := -2) hx hb dX5_drawn_20 (by decide) ?_
    exact rt_i (r := (-2 : Int32)) C hP hD hS dX5_drawn_22 (rw_end h)
  · replace h := it_f c1 h
    refine lv_iload_n hx hb dX5_drawn_4 rfl (lv_at hl 1 rfl) ?_
    refine lv_ldcw hx hb hown (hts _ wd_779) dX5_drawn_5 ?_
    refine lv_icmp_ge (tgt := 20) hx hb dX5_drawn_8 (by decide) (fun c8 => ?_) (fun c8 => ?_)
    · replace h := it_t c8 h
      refine lv_bipush (v := -2) hx hb dX5_drawn_20 (by decide) ?_
      exact rt_i (r := (-2 : Int32)) C hP hD hS dX5_drawn_22 (rw_end h)
    · replace h := it_f c8 h
      refine lv_iload_n hx hb dX5_drawn_11 rfl (lv_at hl 2 rfl) ?_
      refine lv_if_eq (tgt := 23) hx hb dX5_drawn_12 (by decide) (fun c12 => ?_) (fun c12 => ?_)
      · replace h := it_t c12 h
        exact w_X5_drawn_23 C hP hD hS hl h
      · replace h := it_f c12 h
        refine lv_iload_n hx hb dX5_drawn_15 rfl (lv_at hl 2 rfl) ?_
        refine lv_iconst (v := 1) hx hb dX5_drawn_16 (by decide) ?_
        refine lv_icmp_eq (tgt := 23) hx hb dX5_drawn_17 (by decide) (fun c17 => ?_) (fun c17 => ?_)
        · replace h := it_t c17 h
          exact w_X5_drawn_23 C hP hD hS hl h
        · replace h := it_f c17 h
          refine lv_bipush (v := -2) hx hb dX5_drawn_20 (by decide) ?_
          exact rt_i (r := (-2 : Int32)) C hP hD hS dX5_drawn_22 (rw_end h)
def f_X5_drawn (N : Nat) (x1 : Int32) (x2 : Int32) (M : Mem) : Option (Int32 × Mem) := b_X5_drawn_0 N x1 x2 M
theorem c_X5_drawn {l : Launch} {D : va_G} {cy : Nat → ClassId} {ad : Nat → Nat} {zz : (Nat → Nat) × (Nat → Nat)} {N : Nat} {x1 : Int32} {x2 : Int32} {M : Mem} {rr : Int32} {M' : Mem} (h : f_X5_drawn N x1 x2 M = some (rr, M')) : CTi l D cy ad zz 0 82 yX5_drawn (.code yX5_drawn cX5_drawn 4 (some .int) :: tb) ({ frames := 7, cells := 0, slots := 0, locals := 168 } : Room) [.ref (ad 0), .int x1, .int x2] M rr M' := by
  intro sz
  refine CX.of (by decide +kernel) (fun p e s m args below meth c H ls C hP hD hS hl => ?_) (Nat.le_of_ble_eq_true rfl)
  exact w_X5_drawn_0 C hP hD hS hl h
theorem ev_X5_drawn : yX5_drawn.cls = RX5 ∧ yX5_drawn.cls ≠ "java/lang/invoke/MethodHandle" ∧ yX5_drawn.cls ≠ "java/lang/invoke/VarHandle" ∧ (parseMethodDescriptor yX5_drawn.desc).map (fun d => d.parameters.length) = some 2 := by decide +kernel
end
