section
variable {p : Program} {l : Launch} {e : Env} {s : State} {m : MethodId} {args : Array Value} {below : List Frame} {meth : Method} {c : Code} {D : va_G} {cy : Nat → ClassId} {ad : Nat → Nat} {zz : (Nat → Nat) × (Nat → Nat)} {A : Nat → Prop}
def b_X6_in_0 (M : Mem) (x0 : Int32) (x1 : Int32) (x2 : Int32) : Option (Bool) := (if x0 < x1 then some false else (if x2 < x0 then some false else some true))
set_option maxHeartbeats 4000000 in
set_option maxRecDepth 100000 in
theorem w_X6_in_0 (C : CX p s m args meth c cX6_in 3 (some .boolean) RX6 D cy ad zz 100 21 A) {M : Mem} {x0 : Int32} {x1 : Int32} {x2 : Int32} {rr : Bool} {H : Heap} {locs : List Loc} (hP : va_P D vwCl (pool cy ad 100 21 M) H) (hD : va_D A (pool cy ad 100 21 M)) (hS : va_S A s.heap H locs) {ls : Array Slot} (hl : lv_has ls 3 [(0, .int x0), (1, .int x1), (2, .int x2)]) (h : b_X6_in_0 M x0 x1 x2 = some rr) : W p l e ({ frames := 0, cells := 0, slots := 0, locals := 0 } : Room) s m args below meth c H locs 0 0 (MQ below (va_Qi (fun (x : Int32) (_ : Unit) => x = b2i rr) (fun _ t => PA D cy ad 100 21 A M t) A) args s 0 0 A) (F0 m 0 ls []) := by
  obtain ⟨hx, hb, hml, hown, hts, hr, hlk, hK, hN, hA, hX⟩ := id C
  unfold b_X6_in_0 at h
  refine lv_iload_n hx hb dX6_in_0 rfl (lv_at hl 0 rfl) ?_
  refine lv_iload_n hx hb dX6_in_1 rfl (lv_at hl 1 rfl) ?_
  refine lv_icmp_lt (tgt := 14) hx hb dX6_in_2 (by decide) (fun c2 => ?_) (fun c2 => ?_)
  · replace h := it_t c2 h
    refine lv_iconst (v := 0) hx hb dX6_in_14 (by decide) ?_
    exact rt_z (r := false) C hP hD hS dX6_in_15 ⟨Option.some.inj h, rfl⟩
  · replace h := it_f c2 h
    refine lv_iload_n hx hb dX6_in_5 rfl (lv_at hl 0 rfl) ?_
    refine lv_iload_n hx hb dX6_in_6 rfl (lv_at hl 2 rfl) ?_
    refine lv_icmp_gt (tgt := 14) hx hb dX6_in_7 (by decide) (fun c7 => ?_) (fun c7 => ?_)
    · replace h := it_t c7 h
      refine lv_iconst (v := 0) hx hb dX6_in_14 (by decide) ?_
      exact rt_z (r := false) C hP hD hS dX6_in_15 ⟨Option.some.inj h, rfl⟩
    · replace h := it_f c7 h
      refine lv_iconst (v := 1) hx hb dX6_in_10 (by decide) ?_
      refine lv_goto (tgt := 15) hx hb dX6_in_11 (by decide) ?_
      exact rt_z (r := true) C hP hD hS dX6_in_15 ⟨Option.some.inj h, rfl⟩
def f_X6_in (x0 : Int32) (x1 : Int32) (x2 : Int32) (M : Mem) : Option (Bool) := b_X6_in_0 M x0 x1 x2
theorem c_X6_in {l : Launch} {D : va_G} {cy : Nat → ClassId} {ad : Nat → Nat} {zz : (Nat → Nat) × (Nat → Nat)} {x0 : Int32} {x1 : Int32} {x2 : Int32} {M : Mem} {rr : Bool} (h : f_X6_in x0 x1 x2 M = some rr) : CTi l D cy ad zz 100 21 yX6_in (.code yX6_in cX6_in 3 (some .boolean) :: tb) ({ frames := 0, cells := 0, slots := 0, locals := 0 } : Room) [.int x0, .int x1, .int x2] M (b2i rr) M := by
  intro sz
  refine CX.of (by decide +kernel) (fun p e s m args below meth c H ls C hP hD hS hl => ?_) (Nat.le_of_ble_eq_true rfl)
  exact w_X6_in_0 C hP hD hS hl h
theorem es_X6_in : yX6_in.cls ≠ "java/lang/invoke/MethodHandle" ∧ yX6_in.cls ≠ "java/lang/invoke/VarHandle" ∧ (parseMethodDescriptor yX6_in.desc).map (fun d => d.parameters.length) = some 3 := by decide +kernel
def b_X6_within_0 (M : Mem) (x0 : Int32) (x1 : Int32) (x2 : Int32) : Option (Int32) := (if x1 ≤ x0 then (if x0 ≤ x2 then some x0 else some x2) else some x1)
set_option maxHeartbeats 4000000 in
set_option maxRecDepth 100000 in
theorem w_X6_within_0 (C : CX p s m args meth c cX6_within 3 (some .int) RX6 D cy ad zz 100 21 A) {M : Mem} {x0 : Int32} {x1 : Int32} {x2 : Int32} {rr : Int32} {H : Heap} {locs : List Loc} (hP : va_P D vwCl (pool cy ad 100 21 M) H) (hD : va_D A (pool cy ad 100 21 M)) (hS : va_S A s.heap H locs) {ls : Array Slot} (hl : lv_has ls 3 [(0, .int x0), (1, .int x1), (2, .int x2)]) (h : b_X6_within_0 M x0 x1 x2 = some rr) : W p l e ({ frames := 0, cells := 0, slots := 0, locals := 0 } : Room) s m args below meth c H locs 0 0 (MQ below (va_Qi (fun (x : Int32) (_ : Unit) => x = rr) (fun _ t => PA D cy ad 100 21 A M t) A) args s 0 0 A) (F0 m 0 ls []) := by
  obtain ⟨hx, hb, hml, hown, hts, hr, hlk, hK, hN, hA, hX⟩ := id C
  unfold b_X6_within_0 at h
  refine lv_iload_n hx hb dX6_within_0 rfl (lv_at hl 0 rfl) ?_
  refine lv_iload_n hx hb dX6_within_1 rfl (lv_at hl 1 rfl) ?_
  refine lv_icmp_ge (tgt := 9) hx hb dX6_within_2 (by decide) (fun c2 => ?_) (fun c2 => ?_)
  · replace h := it_t c2 h
    refine lv_iload_n hx hb dX6_within_9 rfl (lv_at hl 0 rfl) ?_
    refine lv_iload_n hx hb dX6_within_10 rfl (lv_at hl 2 rfl) ?_
    refine lv_icmp_le (tgt := 18) hx hb dX6_within_11 (by decide) (fun c11 => ?_) (fun c11 => ?_)
    · replace h := it_t c11 h
      refine lv_iload_n hx hb dX6_within_18 rfl (lv_at hl 0 rfl) ?_
      exact rt_i (r := x0) C hP hD hS dX6_within_19 ⟨Option.some.inj h, rfl⟩
    · replace h := it_f c11 h
      refine lv_iload_n hx hb dX6_within_14 rfl (lv_at hl 2 rfl) ?_
      refine lv_goto (tgt := 19) hx hb dX6_within_15 (by decide) ?_
      exact rt_i (r := x2) C hP hD hS dX6_within_19 ⟨Option.some.inj h, rfl⟩
  · replace h := it_f c2 h
    refine lv_iload_n hx hb dX6_within_5 rfl (lv_at hl 1 rfl) ?_
    refine lv_goto (tgt := 19) hx hb dX6_within_6 (by decide) ?_
    exact rt_i (r := x1) C hP hD hS dX6_within_19 ⟨Option.some.inj h, rfl⟩
def f_X6_within (x0 : Int32) (x1 : Int32) (x2 : Int32) (M : Mem) : Option (Int32) := b_X6_within_0 M x0 x1 x2
theorem c_X6_within {l : Launch} {D : va_G} {cy : Nat → ClassId} {ad : Nat → Nat} {zz : (Nat → Nat) × (Nat → Nat)} {x0 : Int32} {x1 : Int32} {x2 : Int32} {M : Mem} {rr : Int32} (h : f_X6_within x0 x1 x2 M = some rr) : CTi l D cy ad zz 100 21 yX6_within (.code yX6_within cX6_within 3 (some .int) :: tb) ({ frames := 0, cells := 0, slots := 0, locals := 0 } : Room) [.int x0, .int x1, .int x2] M rr M := by
  intro sz
  refine CX.of (by decide +kernel) (fun p e s m args below meth c H ls C hP hD hS hl => ?_) (Nat.le_of_ble_eq_true rfl)
  exact w_X6_within_0 C hP hD hS hl h
theorem es_X6_within : yX6_within.cls ≠ "java/lang/invoke/MethodHandle" ∧ yX6_within.cls ≠ "java/lang/invoke/VarHandle" ∧ (parseMethodDescriptor yX6_within.desc).map (fun d => d.parameters.length) = some 3 := by decide +kernel
def b_X6_isCell_0 (M : Mem) (x0 : Int32) : Option (Bool) := (f_X6_in x0 (0 : Int32) (63 : Int32) M).bind fun r4 => some r4
set_option maxHeartbeats 4000000 in
set_option maxRecDepth 100000 in
theorem w_X6_isCell_0 (C : CX p s m args meth c cX6_isCell 1 (some .boolean) RX6 D cy ad zz 100 21 A) {M : Mem} {x0 : Int32} {rr : Bool} {H : Heap} {locs : List Loc} (hP : va_P D vwCl (pool cy ad 100 21 M) H) (hD : va_D A (pool cy ad 100 21 M)) (hS : va_S A s.heap H locs) {ls : Array Slot} (hl : lv_has ls 1 [(0, .int x0)]) (h : b_X6_isCell_0 M x0 = some rr) : W p l e ({ frames := 1, cells := 0, slots := 0, locals := 22 } : Room) s m args below meth c H locs 0 0 (MQ below (va_Qi (fun (x : Int32) (_ : Unit) => x = b2i rr) (fun _ t => PA D cy ad 100 21 A M t) A) args s 0 0 A) (F0 m 0 ls []) := by
  obtain ⟨hx, hb, hml, hown, hts, hr, hlk, hK, hN, hA, hX⟩ := id C
  unfold b_X6_isCell_0 at h
  refine lv_iload_n hx hb dX6_isCell_0 rfl (lv_at hl 0 rfl) ?_
  refine lv_iconst (v := 0) hx hb dX6_isCell_1 (by decide) ?_
  refine lv_bipush (v := 63) hx hb dX6_isCell_2 (by decide) ?_
  obtain ⟨r4, g4, h⟩ := bd_of h
  refine call_iS (As := [.int x0, .int (0 : Int32), .int (63 : Int32)]) (rest := []) C hP hD hS (c_X6_in g4) (gS wd_843 wd_844 wd_75 wd_845) es_X6_in ⟨rfl, rfl⟩ ⟨Nat.le_of_ble_eq_true rfl, Nat.le_of_ble_eq_true rfl⟩ hl.1 rfl (Nat.le_of_ble_eq_true rfl) dX6_isCell_4 (fun H locs hP hD hS => ?_)
  exact rt_z (r := r4) C hP hD hS dX6_isCell_7 ⟨Option.some.inj h, rfl⟩
def f_X6_isCell (x0 : Int32) (M : Mem) : Option (Bool) := b_X6_isCell_0 M x0
theorem c_X6_isCell {l : Launch} {D : va_G} {cy : Nat → ClassId} {ad : Nat → Nat} {zz : (Nat → Nat) × (Nat → Nat)} {x0 : Int32} {M : Mem} {rr : Bool} (h : f_X6_isCell x0 M = some rr) : CTi l D cy ad zz 100 21 yX6_isCell (.code yX6_isCell cX6_isCell 1 (some .boolean) :: tb) ({ frames := 1, cells := 0, slots := 0, locals := 22 } : Room) [.int x0] M (b2i rr) M := by
  intro sz
  refine CX.of (by decide +kernel) (fun p e s m args below meth c H ls C hP hD hS hl => ?_) (Nat.le_of_ble_eq_true rfl)
  exact w_X6_isCell_0 C hP hD hS hl h
theorem es_X6_isCell : yX6_isCell.cls ≠ "java/lang/invoke/MethodHandle" ∧ yX6_isCell.cls ≠ "java/lang/invoke/VarHandle" ∧ (parseMethodDescriptor yX6_isCell.desc).map (fun d => d.parameters.length) = some 1 := by decide +kernel
def b_X6_isOne_0 (M : Mem) (x1 : Int32) : Option (Bool) := (f_X6_in x1 (0 : Int32) ((FI M 100 0) - (1 : Int32)) M).bind fun r8 => some r8
set_option maxHeartbeats 4000000 in
set_option maxRecDepth 100000 in
theorem w_X6_isOne_0 (C : CX p s m args meth c cX6_isOne 2 (some .boolean) RX6 D cy ad zz 100 21 A) {M : Mem} {x1 : Int32} {rr : Bool} {H : Heap} {locs : List Loc} (hP : va_P D vwCl (pool cy ad 100 21 M) H) (hD : va_D A (pool cy ad 100 21 M)) (hS : va_S A s.heap H locs) {ls : Array Slot} (hl : lv_has ls 2 [(0, .ref (ad 100)), (1, .int x1)]) (h : b_X6_isOne_0 M x1 = some rr) : W p l e ({ frames := 1, cells := 0, slots := 0, locals := 22 } : Room) s m args below meth c H locs 0 0 (MQ below (va_Qi (fun (x : Int32) (_ : Unit) => x = b2i rr) (fun _ t => PA D cy ad 100 21 A M t) A) args s 0 0 A) (F0 m 0 ls []) := by
  obtain ⟨hx, hb, hml, hown, hts, hr, hlk, hK, hN, hA, hX⟩ := id C
  unfold b_X6_isOne_0 at h
  refine lv_iload_n hx hb dX6_isOne_0 rfl (lv_at hl 1 rfl) ?_
  refine lv_iconst (v := 0) hx hb dX6_isOne_1 (by decide) ?_
  refine lv_aload_n hx hb dX6_isOne_2 rfl (lv_at hl 0 rfl) ?_
  refine gf_6_0 C hP (iL (by decide)) (by decide) wd_882 dX6_isOne_3 ?_
  refine lv_iconst (v := 1) hx hb dX6_isOne_6 (by decide) ?_
  refine lv_isub hx hb dX6_isOne_7 ?_
  obtain ⟨r8, g8, h⟩ := bd_of h
  refine call_iS (As := [.int x1, .int (0 : Int32), .int ((FI M 100 0) - (1 : Int32))]) (rest := []) C hP hD hS (c_X6_in g8) (gS wd_843 wd_844 wd_75 wd_845) es_X6_in ⟨rfl, rfl⟩ ⟨Nat.le_of_ble_eq_true rfl, Nat.le_of_ble_eq_true rfl⟩ hl.1 rfl (Nat.le_of_ble_eq_true rfl) dX6_isOne_8 (fun H locs hP hD hS => ?_)
  exact rt_z (r := r8) C hP hD hS dX6_isOne_11 ⟨Option.some.inj h, rfl⟩
def f_X6_isOne (x1 : Int32) (M : Mem) : Option (Bool) := b_X6_isOne_0 M x1
theorem c_X6_isOne {l : Launch} {D : va_G} {cy : Nat → ClassId} {ad : Nat → Nat} {zz : (Nat → Nat) × (Nat → Nat)} {x1 : Int32} {M : Mem} {rr : Bool} (h : f_X6_isOne x1 M = some rr) : CTi l D cy ad zz 100 21 yX6_isOne (.code yX6_isOne cX6_isOne 2 (some .boolean) :: tb) ({ frames := 1, cells := 0, slots := 0, locals := 22 } : Room) [.ref (ad 100), .int x1] M (b2i rr) M := by
  intro sz
  refine CX.of (by decide +kernel) (fun p e s m args below meth c H ls C hP hD hS hl => ?_) (Nat.le_of_ble_eq_true rfl)
  exact w_X6_isOne_0 C hP hD hS hl h
theorem ev_X6_isOne : yX6_isOne.cls = RX6 ∧ yX6_isOne.cls ≠ "java/lang/invoke/MethodHandle" ∧ yX6_isOne.cls ≠ "java/lang/invoke/VarHandle" ∧ (parseMethodDescriptor yX6_isOne.desc).map (fun d => d.parameters.length) = some 1 := by decide +kernel
def b_X6_isWet_0 (M : Mem) (x1 : Int32) : Option (Bool) := (if (lg_cmp (((FJ M 100 6) >>> (x1.toInt64 &&& 63)) &&& (1 : Int64)) (1 : Int64)) = 0 then some true else some false)
set_option maxHeartbeats 4000000 in
set_option maxRecDepth 100000 in
theorem w_X6_isWet_0 (C : CX p s m args meth c cX6_isWet 2 (some .boolean) RX6 D cy ad zz 100 21 A) {M : Mem} {x1 : Int32} {rr : Bool} {H : Heap} {locs : List Loc} (hP : va_P D vwCl (pool cy ad 100 21 M) H) (hD : va_D A (pool cy ad 100 21 M)) (hS : va_S A s.heap H locs) {ls : Array Slot} (hl : lv_has ls 2 [(0, .ref (ad 100)), (1, .int x1)]) (h : b_X6_isWet_0 M x1 = some rr) : W p l e ({ frames := 0, cells := 0, slots := 0, locals := 0 } : Room) s m args below meth c H locs 0 0 (MQ below (va_Qi (fun (x : Int32) (_ : Unit) => x = b2i rr) (fun _ t => PA D cy ad 100 21 A M t) A) args s 0 0 A) (F0 m 0 ls []) := by
  obtain ⟨hx, hb, hml, hown, hts, hr, hlk, hK, hN, hA, hX⟩ := id C
  unfold b_X6_isWet_0 at h
  refine lv_aload_n hx hb dX6_isWet_0 rfl (lv_at hl 0 rfl) ?_
  refine gf_6_6 C hP (iL (by decide)) (by decide) wd_888 dX6_isWet_1 ?_
  refine lv_iload_n hx hb dX6_isWet_4 rfl (lv_at hl 1 rfl) ?_
  refine lv_lshr (v := ((FJ M 100 6) >>> (x1.toInt64 &&& 63))) hx hb dX6_isWet_5 rfl ?_
  refine lv_lconst (v := 1) hx hb dX6_isWet_6 (by decide) ?_
  refine lv_land hx hb dX6_isWet_7 ?_
  refine lv_lconst (v := 1) hx hb dX6_isWet_8 (by decide) ?_
  refine W.lcmp hx hb dX6_isWet_9 ?_
  refine lv_if_ne (tgt := 17) hx hb dX6_isWet_10 (by decide) (fun c10 => ?_) (fun c10 => ?_)
  · replace h := it_f c10 h
    refine lv_iconst (v := 0) hx hb dX6_isWet_17 (by decide) ?_
    exact rt_z (r := false) C hP hD hS dX6_isWet_18 ⟨Option.some.inj h, rfl⟩
  · replace h := it_t c10 h
    refine lv_iconst (v := 1) hx hb dX6_isWet_13 (by decide) ?_
    refine lv_goto (tgt := 18) hx hb dX6_isWet_14 (by decide) ?_
    exact rt_z (r := true) C hP hD hS dX6_isWet_18 ⟨Option.some.inj h, rfl⟩
def f_X6_isWet (x1 : Int32) (M : Mem) : Option (Bool) := b_X6_isWet_0 M x1
theorem c_X6_isWet {l : Launch} {D : va_G} {cy : Nat → ClassId} {ad : Nat → Nat} {zz : (Nat → Nat) × (Nat → Nat)} {x1 : Int32} {M : Mem} {rr : Bool} (h : f_X6_isWet x1 M = some rr) : CTi l D cy ad zz 100 21 yX6_isWet (.code yX6_isWet cX6_isWet 2 (some .boolean) :: tb) ({ frames := 0, cells := 0, slots := 0, locals := 0 } : Room) [.ref (ad 100), .int x1] M (b2i rr) M := by
  intro sz
  refine CX.of (by decide +kernel) (fun p e s m args below meth c H ls C hP hD hS hl => ?_) (Nat.le_of_ble_eq_true rfl)
  exact w_X6_isWet_0 C hP hD hS hl h
theorem ev_X6_isWet : yX6_isWet.cls = RX6 ∧ yX6_isWet.cls ≠ "java/lang/invoke/MethodHandle" ∧ yX6_isWet.cls ≠ "java/lang/invoke/VarHandle" ∧ (parseMethodDescriptor yX6_isWet.desc).map (fun d => d.parameters.length) = some 1 := by decide +kernel
def b_X6_bitsOf_26 (N : Nat) (M : Mem) (y0 : Int64) (k4 : Int32 → Int32 → Option (Int32)) (x3 : Int32) (t0 : Int32) (t1 : Int32) : Option (Int32) := k4 (t0 + t1) (x3 + (1 : Int32))
set_option maxHeartbeats 4000000 in
set_option maxRecDepth 100000 in
theorem w_X6_bitsOf_26 (C : CX p s m args meth c cX6_bitsOf 4 (some .int) RX6 D cy ad zz 100 21 A) {N : Nat} {M : Mem} {y0 : Int64} {k4 : Int32 → Int32 → Option (Int32)} {rr : Int32} (hk4 : ∀ (x2 : Int32), ∀ (x3 : Int32), ∀ (H : Heap) (locs : List Loc), va_P D vwCl (pool cy ad 100 21 M) H → va_D A (pool cy ad 100 21 M) → va_S A s.heap H locs → ∀ (ls : Array Slot), lv_has ls 4 [(0, .long y0), (2, .int x2), (3, .int x3)] → k4 x2 x3 = some rr → W p l e ({ frames := 0, cells := 0, slots := 0, locals := 0 } : Room) s m args below meth c H locs 0 0 (MQ below (va_Qi (fun (x : Int32) (_ : Unit) => x = rr) (fun _ t => PA D cy ad 100 21 A M t) A) args s 0 0 A) (F0 m 4 ls [])) {x3 : Int32} {t0 : Int32} {t1 : Int32} {H : Heap} {locs : List Loc} (hP : va_P D vwCl (pool cy ad 100 21 M) H) (hD : va_D A (pool cy ad 100 21 M)) (hS : va_S A s.heap H locs) {ls : Array Slot} (hl : lv_has ls 4 [(0, .long y0), (3, .int x3)]) (h : b_X6_bitsOf_26 N M y0 k4 x3 t0 t1 = some rr) : W p l e ({ frames := 0, cells := 0, slots := 0, locals := 0 } : Room) s m args below meth c H locs 0 0 (MQ below (va_Qi (fun (x : Int32) (_ : Unit) => x = rr) (fun _ t => PA D cy ad 100 21 A M t) A) args s 0 0 A) (F0 m 26 ls [.int t1, .int t0]) := by
  obtain ⟨hx, hb, hml, hown, hts, hr, hlk, hK, hN, hA, hX⟩ := id C
  unfold b_X6_bitsOf_26 at h
  refine lv_iadd hx hb dX6_bitsOf_26 ?_
  refine lv_istore_n (lv' := [(2, .int (t0 + t1)), (0, .long y0), (3, .int x3)]) hx hb dX6_bitsOf_27 rfl hl (by decide) rfl (fun ls hl => ?_)
  refine lv_iinc (v := (x3 + (1 : Int32))) (lv' := [(3, .int (x3 + (1 : Int32))), (2, .int (t0 + t1)), (0, .long y0)]) hx hb dX6_bitsOf_28 hl (k := 2) rfl rfl (by decide) rfl (fun ls hl => ?_)
  refine lv_goto (tgt := 4) hx hb dX6_bitsOf_31 (by decide) ?_
  exact hk4 _ _ _ _ hP hD hS _ (lv_sub hl [2, 1, 0] rfl) h
def b_X6_bitsOf_4 (N : Nat) (M : Mem) (y0 : Int64) : Nat → Int32 → Int32 → Option (Int32)
  | 0, _, _ => none
  | fu + 1, x2, x3 => (if (64 : Int32) ≤ x3 then some x2 else (if (lg_cmp ((y0 >>> (x3.toInt64 &&& 63)) &&& (1 : Int64)) (1 : Int64)) = 0 then b_X6_bitsOf_26 N M y0 (b_X6_bitsOf_4 N M y0 fu) x3 x2 (1 : Int32) else b_X6_bitsOf_26 N M y0 (b_X6_bitsOf_4 N M y0 fu) x3 x2 (0 : Int32)))
set_option maxHeartbeats 4000000 in
set_option maxRecDepth 100000 in
theorem w_X6_bitsOf_4 (C : CX p s m args meth c cX6_bitsOf 4 (some .int) RX6 D cy ad zz 100 21 A) {N : Nat} {M : Mem} {y0 : Int64} {rr : Int32}  : ∀ (fu : Nat), ∀ (x2 : Int32), ∀ (x3 : Int32), ∀ (H : Heap) (locs : List Loc), va_P D vwCl (pool cy ad 100 21 M) H → va_D A (pool cy ad 100 21 M) → va_S A s.heap H locs → ∀ (ls : Array Slot), lv_has ls 4 [(0, .long y0), (2, .int x2), (3, .int x3)] → b_X6_bitsOf_4 N M y0 fu x2 x3 = some rr → W p l e ({ frames := 0, cells := 0, slots := 0, locals := 0 } : Room) s m args below meth c H locs 0 0 (MQ below (va_Qi (fun (x : Int32) (_ : Unit) => x = rr) (fun _ t => PA D cy ad 100 21 A M t) A) args s 0 0 A) (F0 m 4 ls []) := by
  obtain ⟨hx, hb, hml, hown, hts, hr, hlk, hK, hN, hA, hX⟩ := id C
  intro fu
  induction fu with
  | zero =>
    intro x2 x3 H locs hP hD hS ls hl h
    exact no_some (show none = some _ from h)
  | succ fu ih =>
    intro x2 x3 H locs hP hD hS ls hl h
    rw [b_X6_bitsOf_4] at h
    refine lv_iload_n hx hb dX6_bitsOf_4 rfl (lv_at hl 2 rfl) ?_
    refine lv_bipush (v := 64) hx hb dX6_bitsOf_5 (by decide) ?_
    refine lv_icmp_ge (tgt := 34) hx hb dX6_bitsOf_7 (by decide) (fun c7 => ?_) (fun c7 => ?_)
    · replace h := it_t c7 h
      refine lv_iload_n hx hb dX6_bitsOf_34 rfl (lv_at hl 1 rfl) ?_
      exact rt_i (r := x2) C hP hD hS dX6_bitsOf_35 ⟨Option.some.inj h, rfl⟩
    · replace h := it_f c7 h
      refine lv_iload_n hx hb dX6_bitsOf_10 rfl (lv_at hl 1 rfl) ?_
      refine lv_lload_n hx hb dX6_bitsOf_11 rfl (lv_at hl 0 rfl) ?_
      refine lv_iload_n hx hb dX6_bitsOf_12 rfl (lv_at hl 2 rfl) ?_
      refine lv_lshr (v := (y0 >>> (x3.toInt64 &&& 63))) hx hb dX6_bitsOf_13 rfl ?_
      refine lv_lconst (v := 1) hx hb dX6_bitsOf_14 (by decide) ?_
      refine lv_land hx hb dX6_bitsOf_15 ?_
      refine lv_lconst (v := 1) hx hb dX6_bitsOf_16 (by decide) ?_
      refine W.lcmp hx hb dX6_bitsOf_17 ?_
      refine lv_if_ne (tgt := 25) hx hb dX6_bitsOf_18 (by decide) (fun c18 => ?_) (fun c18 => ?_)
      · replace h := it_f c18 h
        refine lv_iconst (v := 0) hx hb dX6_bitsOf_25 (by decide) ?_
        exact w_X6_bitsOf_26 C ih hP hD hS (lv_sub hl [0, 2] rfl) h
      · replace h := it_t c18 h
        refine lv_iconst (v := 1) hx hb dX6_bitsOf_21 (by decide) ?_
        refine lv_goto (tgt := 26) hx hb dX6_bitsOf_22 (by decide) ?_
        exact w_X6_bitsOf_26 C ih hP hD hS (lv_sub hl [0, 2] rfl) h
def b_X6_bitsOf_0 (N : Nat) (M : Mem) (y0 : Int64) : Option (Int32) := b_X6_bitsOf_4 N M y0 N (0 : Int32) (0 : Int32)
set_option maxHeartbeats 4000000 in
set_option maxRecDepth 100000 in
theorem w_X6_bitsOf_0 (C : CX p s m args meth c cX6_bitsOf 4 (some .int) RX6 D cy ad zz 100 21 A) {N : Nat} {M : Mem} {y0 : Int64} {rr : Int32} {H : Heap} {locs : List Loc} (hP : va_P D vwCl (pool cy ad 100 21 M) H) (hD : va_D A (pool cy ad 100 21 M)) (hS : va_S A s.heap H locs) {ls : Array Slot} (hl : lv_has ls 4 [(0, .long y0)]) (h : b_X6_bitsOf_0 N M y0 = some rr) : W p l e ({ frames := 0, cells := 0, slots := 0, locals := 0 } : Room) s m args below meth c H locs 0 0 (MQ below (va_Qi (fun (x : Int32) (_ : Unit) => x = rr) (fun _ t => PA D cy ad 100 21 A M t) A) args s 0 0 A) (F0 m 0 ls []) := by
  obtain ⟨hx, hb, hml, hown, hts, hr, hlk, hK, hN, hA, hX⟩ := id C
  unfold b_X6_bitsOf_0 at h
  refine lv_iconst (v := 0) hx hb dX6_bitsOf_0 (by decide) ?_
  refine lv_istore_n (lv' := [(2, .int (0 : Int32)), (0, .long y0)]) hx hb dX6_bitsOf_1 rfl hl (by decide) rfl (fun ls hl => ?_)
  refine lv_iconst (v := 0) hx hb dX6_bitsOf_2 (by decide) ?_
  refine lv_istore_n (lv' := [(3, .int (0 : Int32)), (2, .int (0 : Int32)), (0, .long y0)]) hx hb dX6_bitsOf_3 rfl hl (by decide) rfl (fun ls hl => ?_)
  exact w_X6_bitsOf_4 C N _ _ _ _ hP hD hS _ (lv_sub hl [2, 1, 0] rfl) h
def f_X6_bitsOf (N : Nat) (y0 : Int64) (M : Mem) : Option (Int32) := b_X6_bitsOf_0 N M y0
theorem c_X6_bitsOf {l : Launch} {D : va_G} {cy : Nat → ClassId} {ad : Nat → Nat} {zz : (Nat → Nat) × (Nat → Nat)} {N : Nat} {y0 : Int64} {M : Mem} {rr : Int32} (h : f_X6_bitsOf N y0 M = some rr) : CTi l D cy ad zz 100 21 yX6_bitsOf (.code yX6_bitsOf cX6_bitsOf 4 (some .int) :: tb) ({ frames := 0, cells := 0, slots := 0, locals := 0 } : Room) [.long y0] M rr M := by
  intro sz
  refine CX.of (by decide +kernel) (fun p e s m args below meth c H ls C hP hD hS hl => ?_) (Nat.le_of_ble_eq_true rfl)
  exact w_X6_bitsOf_0 C hP hD hS hl h
theorem es_X6_bitsOf : yX6_bitsOf.cls ≠ "java/lang/invoke/MethodHandle" ∧ yX6_bitsOf.cls ≠ "java/lang/invoke/VarHandle" ∧ (parseMethodDescriptor yX6_bitsOf.desc).map (fun d => d.parameters.length) = some 1 := by decide +kernel
def b_X6_count_0 (N : Nat) (M : Mem) (x1 : Int32) : Option (Int32) := (if x1 = 0 then some (FI M 100 0) else (if x1 = 1 then (f_X6_bitsOf N (FJ M 100 6) M).bind fun r49 => some r49 else (if x1 = 2 then some (FI M 100 7) else (if x1 = 3 then some (FI M 100 12) else (if x1 = 4 then some (FI M 100 13) else (if x1 = 5 then some (FI M 100 9) else some (-2 : Int32)))))))
set_option maxHeartbeats 4000000 in
set_option maxRecDepth 100000 in
theorem w_X6_count_0 (C : CX p s m args meth c cX6_count 2 (some .int) RX6 D cy ad zz 100 21 A) {N : Nat} {M : Mem} {x1 : Int32} {rr : Int32} {H : Heap} {locs : List Loc} (hP : va_P D vwCl (pool cy ad 100 21 M) H) (hD : va_D A (pool cy ad 100 21 M)) (hS : va_S A s.heap H locs) {ls : Array Slot} (hl : lv_has ls 2 [(0, .ref (ad 100)), (1, .int x1)]) (h : b_X6_count_0 N M x1 = some rr) : W p l e ({ frames := 1, cells := 0, slots := 0, locals := 23 } : Room) s m args below meth c H locs 0 0 (MQ below (va_Qi (fun (x : Int32) (_ : Unit) => x = rr) (fun _ t => PA D cy ad 100 21 A M t) A) args s 0 0 A) (F0 m 0 ls []) := by
  obtain ⟨hx, hb, hml, hown, hts, hr, hlk, hK, hN, hA, hX⟩ := id C
  unfold b_X6_count_0 at h
  refine lv_iload_n hx hb dX6_count_0 rfl (lv_at hl 1 rfl) ?_
  by_cases c1_0 : x1 = 0
  · replace h := it_t c1_0 h
    refine lv_tableIn (off := 39) (tgt := 40) hx hb dX6_count_1 (by rw [c1_0]; decide) (by rw [c1_0]; decide) (by rw [c1_0]; rfl) (by decide) ?_
    refine lv_aload_n hx hb dX6_count_40 rfl (lv_at hl 0 rfl) ?_
    refine gf_6_0 C hP (iL (by decide)) (by decide) wd_882 dX6_count_41 ?_
    exact rt_i (r := (FI M 100 0)) C hP hD hS dX6_count_44 ⟨Option.some.inj h, rfl⟩
  · replace h := it_f c1_0 h
    by_cases c1_1 : x1 = 1
    · replace h := it_t c1_1 h
      refine lv_tableIn (off := 44) (tgt := 45) hx hb dX6_count_1 (by rw [c1_1]; decide) (by rw [c1_1]; decide) (by rw [c1_1]; rfl) (by decide) ?_
      refine lv_aload_n hx hb dX6_count_45 rfl (lv_at hl 0 rfl) ?_
      refine gf_6_6 C hP (iL (by decide)) (by decide) wd_888 dX6_count_46 ?_
      obtain ⟨r49, g49, h⟩ := bd_of h
      refine call_iS (As := [.long (FJ M 100 6)]) (rest := []) C hP hD hS (c_X6_bitsOf g49) (gS wd_999 wd_1000 wd_75 wd_1001) es_X6_bitsOf ⟨rfl, rfl⟩ ⟨Nat.le_of_ble_eq_true rfl, Nat.le_of_ble_eq_true rfl⟩ hl.1 rfl (Nat.le_of_ble_eq_true rfl) dX6_count_49 (fun H locs hP hD hS => ?_)
      exact rt_i (r := r49) C hP hD hS dX6_count_52 ⟨Option.some.inj h, rfl⟩
    · replace h := it_f c1_1 h
      by_cases c1_2 : x1 = 2
      · replace h := it_t c1_2 h
        refine lv_tableIn (off := 52) (tgt := 53) hx hb dX6_count_1 (by rw [c1_2]; decide) (by rw [c1_2]; decide) (by rw [c1_2]; rfl) (by decide) ?_
        refine lv_aload_n hx hb dX6_count_53 rfl (lv_at hl 0 rfl) ?_
        refine gf_6_7 C hP (iL (by decide)) (by decide) wd_889 dX6_count_54 ?_
        exact rt_i (r := (FI M 100 7)) C hP hD hS dX6_count_57 ⟨Option.some.inj h, rfl⟩
      · replace h := it_f c1_2 h
        by_cases c1_3 : x1 = 3
        · replace h := it_t c1_3 h
          refine lv_tableIn (off := 57) (tgt := 58) hx hb dX6_count_1 (by rw [c1_3]; decide) (by rw [c1_3]; decide) (by rw [c1_3]; rfl) (by decide) ?_
          refine lv_aload_n hx hb dX6_count_58 rfl (lv_at hl 0 rfl) ?_
          refine gf_6_12 C hP (iL (by decide)) (by decide) wd_894 dX6_count_59 ?_
          exact rt_i (r := (FI M 100 12)) C hP hD hS dX6_count_62 ⟨Option.some.inj h, rfl⟩
        · replace h := it_f c1_3 h
          by_cases c1_4 : x1 = 4
          · replace h := it_t c1_4 h
            refine lv_tableIn (off := 62) (tgt := 63) hx hb dX6_count_1 (by rw [c1_4]; decide) (by rw [c1_4]; decide) (by rw [c1_4]; rfl) (by decide) ?_
            refine lv_aload_n hx hb dX6_count_63 rfl (lv_at hl 0 rfl) ?_
            refine gf_6_13 C hP (iL (by decide)) (by decide) wd_895 dX6_count_64 ?_
            exact rt_i (r := (FI M 100 13)) C hP hD hS dX6_count_67 ⟨Option.some.inj h, rfl⟩
          · replace h := it_f c1_4 h
            by_cases c1_5 : x1 = 5
            · replace h := it_t c1_5 h
              refine lv_tableIn (off := 67) (tgt := 68) hx hb dX6_count_1 (by rw [c1_5]; decide) (by rw [c1_5]; decide) (by rw [c1_5]; rfl) (by decide) ?_
              refine lv_aload_n hx hb dX6_count_68 rfl (lv_at hl 0 rfl) ?_
              refine gf_6_9 C hP (iL (by decide)) (by decide) wd_891 dX6_count_69 ?_
              exact rt_i (r := (FI M 100 9)) C hP hD hS dX6_count_72 ⟨Option.some.inj h, rfl⟩
            · replace h := it_f c1_5 h
              have e1_0 : x1.toInt ≠ 0 := fun q => c1_0 (Int32.toInt_inj.mp (q.trans (by decide)))
              have e1_1 : x1.toInt ≠ 1 := fun q => c1_1 (Int32.toInt_inj.mp (q.trans (by decide)))
              have e1_2 : x1.toInt ≠ 2 := fun q => c1_2 (Int32.toInt_inj.mp (q.trans (by decide)))
              have e1_3 : x1.toInt ≠ 3 := fun q => c1_3 (Int32.toInt_inj.mp (q.trans (by decide)))
              have e1_4 : x1.toInt ≠ 4 := fun q => c1_4 (Int32.toInt_inj.mp (q.trans (by decide)))
              have e1_5 : x1.toInt ≠ 5 := fun q => c1_5 (Int32.toInt_inj.mp (q.trans (by decide)))
              refine lv_tableOut (tgt := 73) hx hb dX6_count_1 (by omega) (by decide) ?_
              refine lv_bipush (v := -2) hx hb dX6_count_73 (by decide) ?_
              exact rt_i (r := (-2 : Int32)) C hP hD hS dX6_count_75 ⟨Option.some.inj h, rfl⟩
def f_X6_count (N : Nat) (x1 : Int32) (M : Mem) : Option (Int32) := b_X6_count_0 N M x1
theorem c_X6_count {l : Launch} {D : va_G} {cy : Nat → ClassId} {ad : Nat → Nat} {zz : (Nat → Nat) × (Nat → Nat)} {N : Nat} {x1 : Int32} {M : Mem} {rr : Int32} (h : f_X6_count N x1 M = some rr) : CTi l D cy ad zz 100 21 yX6_count (.code yX6_count cX6_count 2 (some .int) :: tb) ({ frames := 1, cells := 0, slots := 0, locals := 23 } : Room) [.ref (ad 100), .int x1] M rr M := by
  intro sz
  refine CX.of (by decide +kernel) (fun p e s m args below meth c H ls C hP hD hS hl => ?_) (Nat.le_of_ble_eq_true rfl)
  exact w_X6_count_0 C hP hD hS hl h
theorem ev_X6_count : yX6_count.cls = RX6 ∧ yX6_count.cls ≠ "java/lang/invoke/MethodHandle" ∧ yX6_count.cls ≠ "java/lang/invoke/VarHandle" ∧ (parseMethodDescriptor yX6_count.desc).map (fun d => d.parameters.length) = some 1 := by decide +kernel
def b_X6_dusk_0 (x1 : Int32) (M : Mem) : Option (Int32 × Mem) := (f_X6_in x1 (0 : Int32) (999 : Int32) M).bind fun r5 => (if r5 = true then some ((FI M 100 7), (sFI M 100 7 x1)) else some ((-2 : Int32), M))
set_option maxHeartbeats 4000000 in
set_option maxRecDepth 100000 in
theorem w_X6_dusk_0 (C : CX p s m args meth c cX6_dusk 3 (some .int) RX6 D cy ad zz 100 21 A) {M : Mem} {x1 : Int32} {rr : Int32} {M' : Mem} {H : Heap} {locs : List Loc} (hP : va_P D vwCl (pool cy ad 100 21 M) H) (hD : va_D A (pool cy ad 100 21 M)) (hS : va_S A s.heap H locs) {ls : Array Slot} (hl : lv_has ls 3 [(0, .ref (ad 100)), (1, .int x1)]) (h : b_X6_dusk_0 x1 M = some (rr, M')) : W p l e ({ frames := 1, cells := 0, slots := 0, locals := 22 } : Room) s m args below meth c H locs 0 0 (MQ below (va_Qi (fun (x : Int32) (_ : Unit) => x = rr) (fun _ t => PA D cy ad 100 21 A M' t) A) args s 0 0 A) (F0 m 0 ls []) := by
  obtain ⟨hx, hb, hml, hown, hts, hr, hlk, hK, hN, hA, hX⟩ := id C
  unfold b_X6_dusk_0 at h
  refine lv_iload_n hx hb dX6_dusk_0 rfl (lv_at hl 1 rfl) ?_
  refine lv_iconst (v := 0) hx hb dX6_dusk_1 (by decide) ?_
  refine lv_sipush (v := 999) hx hb dX6_dusk_2 (by decide) ?_
  obtain ⟨r5, g5, h⟩ := bd_of h
  refine call_iS (As := [.int x1, .int (0 : Int32), .int (999 : Int32)]) (rest := []) C hP hD hS (c_X6_in g5) (gS wd_843 wd_844 wd_75 wd_845) es_X6_in ⟨rfl, rfl⟩ ⟨Nat.le_of_ble_eq_true rfl, Nat.le_of_ble_eq_true rfl⟩ hl.1 rfl (Nat.le_of_ble_eq_true rfl) dX6_dusk_5 (fun H locs hP hD hS => ?_)
  refine lv_if_ne (tgt := 14) hx hb dX6_dusk_8 (by decide) (fun c8 => ?_) (fun c8 => ?_)
  · replace h := it_t (b2i_1 c8) h
    refine lv_aload_n hx hb dX6_dusk_14 rfl (lv_at hl 0 rfl) ?_
    refine gf_6_7 C hP (iL (by decide)) (by decide) wd_889 dX6_dusk_15 ?_
    refine lv_istore_n (lv' := [(2, .int (FI M 100 7)), (0, .ref (ad 100)), (1, .int x1)]) hx hb dX6_dusk_18 rfl hl (by decide) rfl (fun ls hl => ?_)
    refine lv_aload_n hx hb dX6_dusk_19 rfl (lv_at hl 1 rfl) ?_
    refine lv_iload_n hx hb dX6_dusk_20 rfl (lv_at hl 2 rfl) ?_
    refine pf_6_7 C hP hD hS (iL (by decide)) (by decide) wd_889 dX6_dusk_21 (fun H locs hP hD hS => ?_)
    refine lv_iload_n hx hb dX6_dusk_24 rfl (lv_at hl 0 rfl) ?_
    exact rt_i (r := (FI M 100 7)) C hP hD hS dX6_dusk_25 (rw_end h)
  · replace h := it_f (b2i_n c8) h
    refine lv_bipush (v := -2) hx hb dX6_dusk_11 (by decide) ?_
    exact rt_i (r := (-2 : Int32)) C hP hD hS dX6_dusk_13 (rw_end h)
def f_X6_dusk (x1 : Int32) (M : Mem) : Option (Int32 × Mem) := b_X6_dusk_0 x1 M
theorem c_X6_dusk {l : Launch} {D : va_G} {cy : Nat → ClassId} {ad : Nat → Nat} {zz : (Nat → Nat) × (Nat → Nat)} {x1 : Int32} {M : Mem} {rr : Int32} {M' : Mem} (h : f_X6_dusk x1 M = some (rr, M')) : CTi l D cy ad zz 100 21 yX6_dusk (.code yX6_dusk cX6_dusk 3 (some .int) :: tb) ({ frames := 1, cells := 0, slots := 0, locals := 22 } : Room) [.ref (ad 100), .int x1] M rr M' := by
  intro sz
  refine CX.of (by decide +kernel) (fun p e s m args below meth c H ls C hP hD hS hl => ?_) (Nat.le_of_ble_eq_true rfl)
  exact w_X6_dusk_0 C hP hD hS hl h
theorem ev_X6_dusk : yX6_dusk.cls = RX6 ∧ yX6_dusk.cls ≠ "java/lang/invoke/MethodHandle" ∧ yX6_dusk.cls ≠ "java/lang/invoke/VarHandle" ∧ (parseMethodDescriptor yX6_dusk.desc).map (fun d => d.parameters.length) = some 1 := by decide +kernel
def b_X6_flood_65 (x1 : Int32) (x2 : Int32) (x3 : Int32) (u1 : Int64) (M : Mem) : Option (Int32 × Mem) := some (x3, (sFJ M 100 6 u1))
set_option maxHeartbeats 4000000 in
set_option maxRecDepth 100000 in
theorem w_X6_flood_65 (C : CX p s m args meth c cX6_flood 4 (some .int) RX6 D cy ad zz 100 21 A) {M : Mem} {x1 : Int32} {x2 : Int32} {rr : Int32} {M' : Mem} {x3 : Int32} {u1 : Int64} {H : Heap} {locs : List Loc} (hP : va_P D vwCl (pool cy ad 100 21 M) H) (hD : va_D A (pool cy ad 100 21 M)) (hS : va_S A s.heap H locs) {ls : Array Slot} (hl : lv_has ls 4 [(3, .int x3)]) (h : b_X6_flood_65 x1 x2 x3 u1 M = some (rr, M')) : W p l e ({ frames := 2, cells := 0, slots := 0, locals := 42 } : Room) s m args below meth c H locs 0 0 (MQ below (va_Qi (fun (x : Int32) (_ : Unit) => x = rr) (fun _ t => PA D cy ad 100 21 A M' t) A) args s 0 0 A) (F0 m 65 ls [.long u1, .ref (ad 100)]) := by
  obtain ⟨hx, hb, hml, hown, hts, hr, hlk, hK, hN, hA, hX⟩ := id C
  unfold b_X6_flood_65 at h
  refine pf_6_6 C hP hD hS (iL (by decide)) (by decide) wd_888 dX6_flood_65 (fun H locs hP hD hS => ?_)
  refine lv_iload_n hx hb dX6_flood_68 rfl (lv_at hl 0 rfl) ?_
  exact rt_i (r := x3) C hP hD hS dX6_flood_69 (rw_end h)
def b_X6_flood_35 (x1 : Int32) (x2 : Int32) (t0 : Int32) (M : Mem) : Option (Int32 × Mem) := (if x2 = (1 : Int32) then b_X6_flood_65 x1 x2 t0 ((FJ M 100 6) ||| ((1 : Int64) <<< (x1.toInt64 &&& 63))) M else b_X6_flood_65 x1 x2 t0 ((FJ M 100 6) &&& (((1 : Int64) <<< (x1.toInt64 &&& 63)) ^^^ (-1 : Int64))) M)
set_option maxHeartbeats 4000000 in
set_option maxRecDepth 100000 in
theorem w_X6_flood_35 (C : CX p s m args meth c cX6_flood 4 (some .int) RX6 D cy ad zz 100 21 A) {M : Mem} {x1 : Int32} {x2 : Int32} {rr : Int32} {M' : Mem} {t0 : Int32} {H : Heap} {locs : List Loc} (hP : va_P D vwCl (pool cy ad 100 21 M) H) (hD : va_D A (pool cy ad 100 21 M)) (hS : va_S A s.heap H locs) {ls : Array Slot} (hl : lv_has ls 4 [(0, .ref (ad 100)), (1, .int x1), (2, .int x2)]) (h : b_X6_flood_35 x1 x2 t0 M = some (rr, M')) : W p l e ({ frames := 2, cells := 0, slots := 0, locals := 42 } : Room) s m args below meth c H locs 0 0 (MQ below (va_Qi (fun (x : Int32) (_ : Unit) => x = rr) (fun _ t => PA D cy ad 100 21 A M' t) A) args s 0 0 A) (F0 m 35 ls [.int t0]) := by
  obtain ⟨hx, hb, hml, hown, hts, hr, hlk, hK, hN, hA, hX⟩ := id C
  unfold b_X6_flood_35 at h
  refine lv_istore_n (lv' := [(3, .int t0), (0, .ref (ad 100)), (1, .int x1), (2, .int x2)]) hx hb dX6_flood_35 rfl hl (by decide) rfl (fun ls hl => ?_)
  refine lv_aload_n hx hb dX6_flood_36 rfl (lv_at hl 1 rfl) ?_
  refine lv_iload_n hx hb dX6_flood_37 rfl (lv_at hl 3 rfl) ?_
  refine lv_iconst (v := 1) hx hb dX6_flood_38 (by decide) ?_
  refine lv_icmp_ne (tgt := 53) hx hb dX6_flood_39 (by decide) (fun c39 => ?_) (fun c39 => ?_)
  · replace h := it_f c39 h
    refine lv_aload_n hx hb dX6_flood_53 rfl (lv_at hl 1 rfl) ?_
    refine gf_6_6 C hP (iL (by decide)) (by decide) wd_888 dX6_flood_54 ?_
    refine lv_lconst (v := 1) hx hb dX6_flood_57 (by decide) ?_
    refine lv_iload_n hx hb dX6_flood_58 rfl (lv_at hl 2 rfl) ?_
    refine lv_lshl (v := ((1 : Int64) <<< (x1.toInt64 &&& 63))) hx hb dX6_flood_59 rfl ?_
    refine lv_ldc2 hx hb hown (hts _ wd_1017) dX6_flood_60 ?_
    refine lv_lxor hx hb dX6_flood_63 ?_
    refine lv_land hx hb dX6_flood_64 ?_
    exact w_X6_flood_65 C hP hD hS (lv_sub hl [0] rfl) h
  · replace h := it_t c39 h
    refine lv_aload_n hx hb dX6_flood_42 rfl (lv_at hl 1 rfl) ?_
    refine gf_6_6 C hP (iL (by decide)) (by decide) wd_888 dX6_flood_43 ?_
    refine lv_lconst (v := 1) hx hb dX6_flood_46 (by decide) ?_
    refine lv_iload_n hx hb dX6_flood_47 rfl (lv_at hl 2 rfl) ?_
    refine lv_lshl (v := ((1 : Int64) <<< (x1.toInt64 &&& 63))) hx hb dX6_flood_48 rfl ?_
    refine lv_lor hx hb dX6_flood_49 ?_
    refine lv_goto (tgt := 65) hx hb dX6_flood_50 (by decide) ?_
    exact w_X6_flood_65 C hP hD hS (lv_sub hl [0] rfl) h
def b_X6_flood_0 (x1 : Int32) (x2 : Int32) (M : Mem) : Option (Int32 × Mem) := (f_X6_isCell x1 M).bind fun r1 => (if r1 = true then (f_X6_in x2 (0 : Int32) (1 : Int32) M).bind fun r13 => (if r13 = true then (f_X6_isWet x1 M).bind fun r24 => (if r24 = true then b_X6_flood_35 x1 x2 (1 : Int32) M else b_X6_flood_35 x1 x2 (0 : Int32) M) else some ((-7 : Int32), M)) else some ((-5 : Int32), M))
set_option maxHeartbeats 4000000 in
set_option maxRecDepth 100000 in
theorem w_X6_flood_0 (C : CX p s m args meth c cX6_flood 4 (some .int) RX6 D cy ad zz 100 21 A) {M : Mem} {x1 : Int32} {x2 : Int32} {rr : Int32} {M' : Mem} {H : Heap} {locs : List Loc} (hP : va_P D vwCl (pool cy ad 100 21 M) H) (hD : va_D A (pool cy ad 100 21 M)) (hS : va_S A s.heap H locs) {ls : Array Slot} (hl : lv_has ls 4 [(0, .ref (ad 100)), (1, .int x1), (2, .int x2)]) (h : b_X6_flood_0 x1 x2 M = some (rr, M')) : W p l e ({ frames := 2, cells := 0, slots := 0, locals := 42 } : Room) s m args below meth c H locs 0 0 (MQ below (va_Qi (fun (x : Int32) (_ : Unit) => x = rr) (fun _ t => PA D cy ad 100 21 A M' t) A) args s 0 0 A) (F0 m 0 ls []) := by
  obtain ⟨hx, hb, hml, hown, hts, hr, hlk, hK, hN, hA, hX⟩ := id C
  unfold b_X6_flood_0 at h
  refine lv_iload_n hx hb dX6_flood_0 rfl (lv_at hl 1 rfl) ?_
  obtain ⟨r1, g1, h⟩ := bd_of h
  refine call_iS (As := [.int x1]) (rest := []) C hP hD hS (c_X6_isCell g1) (gS wd_1010 wd_1011 wd_75 wd_1012) es_X6_isCell ⟨rfl, rfl⟩ ⟨Nat.le_of_ble_eq_true rfl, Nat.le_of_ble_eq_true rfl⟩ hl.1 rfl (Nat.le_of_ble_eq_true rfl) dX6_flood_1 (fun H locs hP hD hS => ?_)
  refine lv_if_ne (tgt := 10) hx hb dX6_flood_4 (by decide) (fun c4 => ?_) (fun c4 => ?_)
  · replace h := it_t (b2i_1 c4) h
    refine lv_iload_n hx hb dX6_flood_10 rfl (lv_at hl 2 rfl) ?_
    refine lv_iconst (v := 0) hx hb dX6_flood_11 (by decide) ?_
    refine lv_iconst (v := 1) hx hb dX6_flood_12 (by decide) ?_
    obtain ⟨r13, g13, h⟩ := bd_of h
    refine call_iS (As := [.int x2, .int (0 : Int32), .int (1 : Int32)]) (rest := []) C hP hD hS (c_X6_in g13) (gS wd_843 wd_844 wd_75 wd_845) es_X6_in ⟨rfl, rfl⟩ ⟨Nat.le_of_ble_eq_true rfl, Nat.le_of_ble_eq_true rfl⟩ hl.1 rfl (Nat.le_of_ble_eq_true rfl) dX6_flood_13 (fun H locs hP hD hS => ?_)
    refine lv_if_ne (tgt := 22) hx hb dX6_flood_16 (by decide) (fun c16 => ?_) (fun c16 => ?_)
    · replace h := it_t (b2i_1 c16) h
      refine lv_aload_n hx hb dX6_flood_22 rfl (lv_at hl 0 rfl) ?_
      refine lv_iload_n hx hb dX6_flood_23 rfl (lv_at hl 1 rfl) ?_
      obtain ⟨r24, g24, h⟩ := bd_of h
      refine call_iV (As := [.int x1]) (rest := []) C hP hD hS (c_X6_isWet g24) (iL (by decide)) ⟨6, _, _, ent_6 (by decide), rfl, rfl⟩ (gV wd_1013 wd_1015 wd_38 wd_75 wd_1016) ev_X6_isWet ⟨rfl, rfl⟩ ⟨Nat.le_of_ble_eq_true rfl, Nat.le_of_ble_eq_true rfl⟩ hl.1 rfl (Nat.le_of_ble_eq_true rfl) dX6_flood_24 (fun H locs hP hD hS => ?_)
      refine lv_if_eq (tgt := 34) hx hb dX6_flood_27 (by decide) (fun c27 => ?_) (fun c27 => ?_)
      · replace h := it_f (b2i_n c27) h
        refine lv_iconst (v := 0) hx hb dX6_flood_34 (by decide) ?_
        exact w_X6_flood_35 C hP hD hS hl h
      · replace h := it_t (b2i_1 c27) h
        refine lv_iconst (v := 1) hx hb dX6_flood_30 (by decide) ?_
        refine lv_goto (tgt := 35) hx hb dX6_flood_31 (by decide) ?_
        exact w_X6_flood_35 C hP hD hS hl h
    · replace h := it_f (b2i_n c16) h
      refine lv_bipush (v := -7) hx hb dX6_flood_19 (by decide) ?_
      exact rt_i (r := (-7 : Int32)) C hP hD hS dX6_flood_21 (rw_end h)
  · replace h := it_f (b2i_n c4) h
    refine lv_bipush (v := -5) hx hb dX6_flood_7 (by decide) ?_
    exact rt_i (r := (-5 : Int32)) C hP hD hS dX6_flood_9 (rw_end h)
def f_X6_flood (x1 : Int32) (x2 : Int32) (M : Mem) : Option (Int32 × Mem) := b_X6_flood_0 x1 x2 M
theorem c_X6_flood {l : Launch} {D : va_G} {cy : Nat → ClassId} {ad : Nat → Nat} {zz : (Nat → Nat) × (Nat → Nat)} {x1 : Int32} {x2 : Int32} {M : Mem} {rr : Int32} {M' : Mem} (h : f_X6_flood x1 x2 M = some (rr, M')) : CTi l D cy ad zz 100 21 yX6_flood (.code yX6_flood cX6_flood 4 (some .int) :: tb) ({ frames := 2, cells := 0, slots := 0, locals := 42 } : Room) [.ref (ad 100), .int x1, .int x2] M rr M' := by
  intro sz
  refine CX.of (by decide +kernel) (fun p e s m args below meth c H ls C hP hD hS hl => ?_) (Nat.le_of_ble_eq_true rfl)
  exact w_X6_flood_0 C hP hD hS hl h
theorem ev_X6_flood : yX6_flood.cls = RX6 ∧ yX6_flood.cls ≠ "java/lang/invoke/MethodHandle" ∧ yX6_flood.cls ≠ "java/lang/invoke/VarHandle" ∧ (parseMethodDescriptor yX6_flood.desc).map (fun d => d.parameters.length) = some 2 := by decide +kernel
def b_X6_isByte_0 (M : Mem) (x0 : Int32) : Option (Bool) := (f_X6_in x0 (0 : Int32) (255 : Int32) M).bind fun r5 => some r5
set_option maxHeartbeats 4000000 in
set_option maxRecDepth 100000 in
theorem w_X6_isByte_0 (C : CX p s m args meth c cX6_isByte 1 (some .boolean) RX6 D cy ad zz 100 21 A) {M : Mem} {x0 : Int32} {rr : Bool} {H : Heap} {locs : List Loc} (hP : va_P D vwCl (pool cy ad 100 21 M) H) (hD : va_D A (pool cy ad 100 21 M)) (hS : va_S A s.heap H locs) {ls : Array Slot} (hl : lv_has ls 1 [(0, .int x0)]) (h : b_X6_isByte_0 M x0 = some rr) : W p l e ({ frames := 1, cells := 0, slots := 0, locals := 22 } : Room) s m args below meth c H locs 0 0 (MQ below (va_Qi (fun (x : Int32) (_ : Unit) => x = b2i rr) (fun _ t => PA D cy ad 100 21 A M t) A) args s 0 0 A) (F0 m 0 ls []) := by
  obtain ⟨hx, hb, hml, hown, hts, hr, hlk, hK, hN, hA, hX⟩ := id C
  unfold b_X6_isByte_0 at h
  refine lv_iload_n hx hb dX6_isByte_0 rfl (lv_at hl 0 rfl) ?_
  refine lv_iconst (v := 0) hx hb dX6_isByte_1 (by decide) ?_
  refine lv_sipush (v := 255) hx hb dX6_isByte_2 (by decide) ?_
  obtain ⟨r5, g5, h⟩ := bd_of h
  refine call_iS (As := [.int x0, .int (0 : Int32), .int (255 : Int32)]) (rest := []) C hP hD hS (c_X6_in g5) (gS wd_843 wd_844 wd_75 wd_845) es_X6_in ⟨rfl, rfl⟩ ⟨Nat.le_of_ble_eq_true rfl, Nat.le_of_ble_eq_true rfl⟩ hl.1 rfl (Nat.le_of_ble_eq_true rfl) dX6_isByte_5 (fun H locs hP hD hS => ?_)
  exact rt_z (r := r5) C hP hD hS dX6_isByte_8 ⟨Option.some.inj h, rfl⟩
def f_X6_isByte (x0 : Int32) (M : Mem) : Option (Bool) := b_X6_isByte_0 M x0
theorem c_X6_isByte {l : Launch} {D : va_G} {cy : Nat → ClassId} {ad : Nat → Nat} {zz : (Nat → Nat) × (Nat → Nat)} {x0 : Int32} {M : Mem} {rr : Bool} (h : f_X6_isByte x0 M = some rr) : CTi l D cy ad zz 100 21 yX6_isByte (.code yX6_isByte cX6_isByte 1 (some .boolean) :: tb) ({ frames := 1, cells := 0, slots := 0, locals := 22 } : Room) [.int x0] M (b2i rr) M := by
  intro sz
  refine CX.of (by decide +kernel) (fun p e s m args below meth c H ls C hP hD hS hl => ?_) (Nat.le_of_ble_eq_true rfl)
  exact w_X6_isByte_0 C hP hD hS hl h
theorem es_X6_isByte : yX6_isByte.cls ≠ "java/lang/invoke/MethodHandle" ∧ yX6_isByte.cls ≠ "java/lang/invoke/VarHandle" ∧ (parseMethodDescriptor yX6_isByte.desc).map (fun d => d.parameters.length) = some 1 := by decide +kernel
def b_X6_feed_136 (N : Nat) (x1 : Int32) (x2 : Int32) (x3 : Int32) (x4 : Int32) (x5 : Int32) (x6 : Int32) (k68 : Int32 → Mem → Option (Int32 × Mem)) (x7 : Int32) (M : Mem) : Option (Int32 × Mem) := k68 (x7 + (1 : Int32)) M
set_option maxHeartbeats 4000000 in
set_option maxRecDepth 100000 in
theorem w_X6_feed_136 (C : CX p s m args meth c cX6_feed 8 (some .int) RX6 D cy ad zz 100 21 A) {N : Nat} {M : Mem} {x1 : Int32} {x2 : Int32} {x3 : Int32} {x4 : Int32} {x5 : Int32} {x6 : Int32} {k68 : Int32 → Mem → Option (Int32 × Mem)} {rr : Int32} {M' : Mem} (hk68 : ∀ (x7 : Int32), ∀ (M : Mem), ∀ (H : Heap) (locs : List Loc), va_P D vwCl (pool cy ad 100 21 M) H → va_D A (pool cy ad 100 21 M) → va_S A s.heap H locs → ∀ (ls : Array Slot), lv_has ls 8 [(0, .ref (ad 100)), (1, .int x1), (2, .int x2), (3, .int x3), (4, .int x4), (5, .int x5), (6, .int x6), (7, .int x7)] → k68 x7 M = some (rr, M') → W p l e ({ frames := 2, cells := 0, slots := 0, locals := 42 } : Room) s m args below meth c H locs 0 0 (MQ below (va_Qi (fun (x : Int32) (_ : Unit) => x = rr) (fun _ t => PA D cy ad 100 21 A M' t) A) args s 0 0 A) (F0 m 68 ls [])) {x7 : Int32} {H : Heap} {locs : List Loc} (hP : va_P D vwCl (pool cy ad 100 21 M) H) (hD : va_D A (pool cy ad 100 21 M)) (hS : va_S A s.heap H locs) {ls : Array Slot} (hl : lv_has ls 8 [(0, .ref (ad 100)), (1, .int x1), (2, .int x2), (3, .int x3), (4, .int x4), (5, .int x5), (6, .int x6), (7, .int x7)]) (h : b_X6_feed_136 N x1 x2 x3 x4 x5 x6 k68 x7 M = some (rr, M')) : W p l e ({ frames := 2, cells := 0, slots := 0, locals := 42 } : Room) s m args below meth c H locs 0 0 (MQ below (va_Qi (fun (x : Int32) (_ : Unit) => x = rr) (fun _ t => PA D cy ad 100 21 A M' t) A) args s 0 0 A) (F0 m 136 ls []) := by
  obtain ⟨hx, hb, hml, hown, hts, hr, hlk, hK, hN, hA, hX⟩ := id C
  unfold b_X6_feed_136 at h
  refine lv_iinc (v := (x7 + (1 : Int32))) (lv' := [(7, .int (x7 + (1 : Int32))), (0, .ref (ad 100)), (1, .int x1), (2, .int x2), (3, .int x3), (4, .int x4), (5, .int x5), (6, .int x6)]) hx hb dX6_feed_136 hl (k := 7) rfl rfl (by decide) rfl (fun ls hl => ?_)
  refine lv_goto (tgt := 68) hx hb dX6_feed_139 (by decide) ?_
  exact hk68 _ _ _ _ hP hD hS _ (lv_sub hl [1, 2, 3, 4, 5, 6, 7, 0] rfl) h
def b_X6_feed_126 (N : Nat) (x1 : Int32) (x2 : Int32) (x3 : Int32) (x4 : Int32) (x5 : Int32) (x6 : Int32) (k68 : Int32 → Mem → Option (Int32 × Mem)) (x7 : Int32) (M : Mem) : Option (Int32 × Mem) := b_X6_feed_136 N x1 x2 x3 x4 x5 x6 k68 x7 (sFI M 100 9 ((FI M 100 9) + (1 : Int32)))
set_option maxHeartbeats 4000000 in
set_option maxRecDepth 100000 in
theorem w_X6_feed_126 (C : CX p s m args meth c cX6_feed 8 (some .int) RX6 D cy ad zz 100 21 A) {N : Nat} {M : Mem} {x1 : Int32} {x2 : Int32} {x3 : Int32} {x4 : Int32} {x5 : Int32} {x6 : Int32} {k68 : Int32 → Mem → Option (Int32 × Mem)} {rr : Int32} {M' : Mem} (hk68 : ∀ (x7 : Int32), ∀ (M : Mem), ∀ (H : Heap) (locs : List Loc), va_P D vwCl (pool cy ad 100 21 M) H → va_D A (pool cy ad 100 21 M) → va_S A s.heap H locs → ∀ (ls : Array Slot), lv_has ls 8 [(0, .ref (ad 100)), (1, .int x1), (2, .int x2), (3, .int x3), (4, .int x4), (5, .int x5), (6, .int x6), (7, .int x7)] → k68 x7 M = some (rr, M') → W p l e ({ frames := 2, cells := 0, slots := 0, locals := 42 } : Room) s m args below meth c H locs 0 0 (MQ below (va_Qi (fun (x : Int32) (_ : Unit) => x = rr) (fun _ t => PA D cy ad 100 21 A M' t) A) args s 0 0 A) (F0 m 68 ls [])) {x7 : Int32} {H : Heap} {locs : List Loc} (hP : va_P D vwCl (pool cy ad 100 21 M) H) (hD : va_D A (pool cy ad 100 21 M)) (hS : va_S A s.heap H locs) {ls : Array Slot} (hl : lv_has ls 8 [(0, .ref (ad 100)), (1, .int x1), (2, .int x2), (3, .int x3), (4, .int x4), (5, .int x5), (6, .int x6), (7, .int x7)]) (h : b_X6_feed_126 N x1 x2 x3 x4 x5 x6 k68 x7 M = some (rr, M')) : W p l e ({ frames := 2, cells := 0, slots := 0, locals := 42 } : Room) s m args below meth c H locs 0 0 (MQ below (va_Qi (fun (x : Int32) (_ : Unit) => x = rr) (fun _ t => PA D cy ad 100 21 A M' t) A) args s 0 0 A) (F0 m 126 ls []) := by
  obtain ⟨hx, hb, hml, hown, hts, hr, hlk, hK, hN, hA, hX⟩ := id C
  unfold b_X6_feed_126 at h
  refine lv_aload_n hx hb dX6_feed_126 rfl (lv_at hl 0 rfl) ?_
  refine lv_dup hx hb dX6_feed_127 rfl ?_
  refine gf_6_9 C hP (iL (by decide)) (by decide) wd_891 dX6_feed_128 ?_
  refine lv_iconst (v := 1) hx hb dX6_feed_131 (by decide) ?_
  refine lv_iadd hx hb dX6_feed_132 ?_
  refine pf_6_9 C hP hD hS (iL (by decide)) (by decide) wd_891 dX6_feed_133 (fun H locs hP hD hS => ?_)
  exact w_X6_feed_136 C hk68 hP hD hS hl h
def b_X6_feed_125 (N : Nat) (x1 : Int32) (x2 : Int32) (x3 : Int32) (x4 : Int32) (x5 : Int32) (x6 : Int32) (k68 : Int32 → Mem → Option (Int32 × Mem)) (x7 : Int32) (t1 : Int32) (t2 : Int32) (M : Mem) : Option (Int32 × Mem) := gd (inb t1 (len 106)) (b_X6_feed_126 N x1 x2 x3 x4 x5 x6 k68 x7 (sAI M 106 t1.toNatClampNeg t2))
set_option maxHeartbeats 4000000 in
set_option maxRecDepth 100000 in
theorem w_X6_feed_125 (C : CX p s m args meth c cX6_feed 8 (some .int) RX6 D cy ad zz 100 21 A) {N : Nat} {M : Mem} {x1 : Int32} {x2 : Int32} {x3 : Int32} {x4 : Int32} {x5 : Int32} {x6 : Int32} {k68 : Int32 → Mem → Option (Int32 × Mem)} {rr : Int32} {M' : Mem} (hk68 : ∀ (x7 : Int32), ∀ (M : Mem), ∀ (H : Heap) (locs : List Loc), va_P D vwCl (pool cy ad 100 21 M) H → va_D A (pool cy ad 100 21 M) → va_S A s.heap H locs → ∀ (ls : Array Slot), lv_has ls 8 [(0, .ref (ad 100)), (1, .int x1), (2, .int x2), (3, .int x3), (4, .int x4), (5, .int x5), (6, .int x6), (7, .int x7)] → k68 x7 M = some (rr, M') → W p l e ({ frames := 2, cells := 0, slots := 0, locals := 42 } : Room) s m args below meth c H locs 0 0 (MQ below (va_Qi (fun (x : Int32) (_ : Unit) => x = rr) (fun _ t => PA D cy ad 100 21 A M' t) A) args s 0 0 A) (F0 m 68 ls [])) {x7 : Int32} {t1 : Int32} {t2 : Int32} {H : Heap} {locs : List Loc} (hP : va_P D vwCl (pool cy ad 100 21 M) H) (hD : va_D A (pool cy ad 100 21 M)) (hS : va_S A s.heap H locs) {ls : Array Slot} (hl : lv_has ls 8 [(0, .ref (ad 100)), (1, .int x1), (2, .int x2), (3, .int x3), (4, .int x4), (5, .int x5), (6, .int x6), (7, .int x7)]) (h : b_X6_feed_125 N x1 x2 x3 x4 x5 x6 k68 x7 t1 t2 M = some (rr, M')) : W p l e ({ frames := 2, cells := 0, slots := 0, locals := 42 } : Room) s m args below meth c H locs 0 0 (MQ below (va_Qi (fun (x : Int32) (_ : Unit) => x = rr) (fun _ t => PA D cy ad 100 21 A M' t) A) args s 0 0 A) (F0 m 125 ls [.int t2, .int t1, .ref (ad 106)]) := by
  obtain ⟨hx, hb, hml, hown, hts, hr, hlk, hK, hN, hA, hX⟩ := id C
  unfold b_X6_feed_125 at h
  obtain ⟨gi1, h⟩ := gd_of h
  refine ia_st C hP hD hS (iL (by decide)) (by decide) gi1 dX6_feed_125 (fun H locs hP hD hS => ?_)
  exact w_X6_feed_126 C hk68 hP hD hS hl h
def b_X6_feed_68 (N : Nat) (x1 : Int32) (x2 : Int32) (x3 : Int32) (x4 : Int32) (x5 : Int32) (x6 : Int32) : Nat → Int32 → Mem → Option (Int32 × Mem)
  | 0, _, _ => none
  | fu + 1, x7, M => (if x1 ≤ x7 then some ((FI M 100 9), M) else (if x7 = 0 then b_X6_feed_125 N x1 x2 x3 x4 x5 x6 (b_X6_feed_68 N x1 x2 x3 x4 x5 x6 fu) x7 (FI M 100 9) x2 M else (if x7 = (1 : Int32) then b_X6_feed_125 N x1 x2 x3 x4 x5 x6 (b_X6_feed_68 N x1 x2 x3 x4 x5 x6 fu) x7 (FI M 100 9) x3 M else (if x7 = (2 : Int32) then b_X6_feed_125 N x1 x2 x3 x4 x5 x6 (b_X6_feed_68 N x1 x2 x3 x4 x5 x6 fu) x7 (FI M 100 9) x4 M else (if x7 = (3 : Int32) then b_X6_feed_125 N x1 x2 x3 x4 x5 x6 (b_X6_feed_68 N x1 x2 x3 x4 x5 x6 fu) x7 (FI M 100 9) x5 M else b_X6_feed_125 N x1 x2 x3 x4 x5 x6 (b_X6_feed_68 N x1 x2 x3 x4 x5 x6 fu) x7 (FI M 100 9) x6 M)))))
set_option maxHeartbeats 4000000 in
set_option maxRecDepth 100000 in
theorem w_X6_feed_68 (C : CX p s m args meth c cX6_feed 8 (some .int) RX6 D cy ad zz 100 21 A) {N : Nat} {x1 : Int32} {x2 : Int32} {x3 : Int32} {x4 : Int32} {x5 : Int32} {x6 : Int32} {rr : Int32} {M' : Mem}  : ∀ (fu : Nat), ∀ (x7 : Int32), ∀ (M : Mem), ∀ (H : Heap) (locs : List Loc), va_P D vwCl (pool cy ad 100 21 M) H → va_D A (pool cy ad 100 21 M) → va_S A s.heap H locs → ∀ (ls : Array Slot), lv_has ls 8 [(0, .ref (ad 100)), (1, .int x1), (2, .int x2), (3, .int x3), (4, .int x4), (5, .int x5), (6, .int x6), (7, .int x7)] → b_X6_feed_68 N x1 x2 x3 x4 x5 x6 fu x7 M = some (rr, M') → W p l e ({ frames := 2, cells := 0, slots := 0, locals := 42 } : Room) s m args below meth c H locs 0 0 (MQ below (va_Qi (fun (x : Int32) (_ : Unit) => x = rr) (fun _ t => PA D cy ad 100 21 A M' t) A) args s 0 0 A) (F0 m 68 ls []) := by
  obtain ⟨hx, hb, hml, hown, hts, hr, hlk, hK, hN, hA, hX⟩ := id C
  intro fu
  induction fu with
  | zero =>
    intro x7 M H locs hP hD hS ls hl h
    exact no_some (show none = some _ from h)
  | succ fu ih =>
    intro x7 M H locs hP hD hS ls hl h
    rw [b_X6_feed_68] at h
    refine lv_iload hx hb dX6_feed_68 (lv_at hl 7 rfl) ?_
    refine lv_iload_n hx hb dX6_feed_70 rfl (lv_at hl 1 rfl) ?_
    refine lv_icmp_ge (tgt := 142) hx hb dX6_feed_71 (by decide) (fun c71 => ?_) (fun c71 => ?_)
    · replace h := it_t c71 h
      refine lv_aload_n hx hb dX6_feed_142 rfl (lv_at hl 0 rfl) ?_
      refine gf_6_9 C hP (iL (by decide)) (by decide) wd_891 dX6_feed_143 ?_
      exact rt_i (r := (FI M 100 9)) C hP hD hS dX6_feed_146 (rw_end h)
    · replace h := it_f c71 h
      refine lv_aload_n hx hb dX6_feed_74 rfl (lv_at hl 0 rfl) ?_
      refine gf_6_8 C hP (iL (by decide)) (by decide) wd_890 dX6_feed_75 ?_
      refine lv_aload_n hx hb dX6_feed_78 rfl (lv_at hl 0 rfl) ?_
      refine gf_6_9 C hP (iL (by decide)) (by decide) wd_891 dX6_feed_79 ?_
      refine lv_iload hx hb dX6_feed_82 (lv_at hl 7 rfl) ?_
      refine lv_if_ne (tgt := 91) hx hb dX6_feed_84 (by decide) (fun c84 => ?_) (fun c84 => ?_)
      · replace h := it_f c84 h
        refine lv_iload hx hb dX6_feed_91 (lv_at hl 7 rfl) ?_
        refine lv_iconst (v := 1) hx hb dX6_feed_93 (by decide) ?_
        refine lv_icmp_ne (tgt := 101) hx hb dX6_feed_94 (by decide) (fun c94 => ?_) (fun c94 => ?_)
        · replace h := it_f c94 h
          refine lv_iload hx hb dX6_feed_101 (lv_at hl 7 rfl) ?_
          refine lv_iconst (v := 2) hx hb dX6_feed_103 (by decide) ?_
          refine lv_icmp_ne (tgt := 112) hx hb dX6_feed_104 (by decide) (fun c104 => ?_) (fun c104 => ?_)
          · replace h := it_f c104 h
            refine lv_iload hx hb dX6_feed_112 (lv_at hl 7 rfl) ?_
            refine lv_iconst (v := 3) hx hb dX6_feed_114 (by decide) ?_
            refine lv_icmp_ne (tgt := 123) hx hb dX6_feed_115 (by decide) (fun c115 => ?_) (fun c115 => ?_)
            · replace h := it_f c115 h
              refine lv_iload hx hb dX6_feed_123 (lv_at hl 6 rfl) ?_
              exact w_X6_feed_125 C ih hP hD hS hl h
            · replace h := it_t c115 h
              refine lv_iload hx hb dX6_feed_118 (lv_at hl 5 rfl) ?_
              refine lv_goto (tgt := 125) hx hb dX6_feed_120 (by decide) ?_
              exact w_X6_feed_125 C ih hP hD hS hl h
          · replace h := it_t c104 h
            refine lv_iload hx hb dX6_feed_107 (lv_at hl 4 rfl) ?_
            refine lv_goto (tgt := 125) hx hb dX6_feed_109 (by decide) ?_
            exact w_X6_feed_125 C ih hP hD hS hl h
        · replace h := it_t c94 h
          refine lv_iload_n hx hb dX6_feed_97 rfl (lv_at hl 3 rfl) ?_
          refine lv_goto (tgt := 125) hx hb dX6_feed_98 (by decide) ?_
          exact w_X6_feed_125 C ih hP hD hS hl h
      · replace h := it_t c84 h
        refine lv_iload_n hx hb dX6_feed_87 rfl (lv_at hl 2 rfl) ?_
        refine lv_goto (tgt := 125) hx hb dX6_feed_88 (by decide) ?_
        exact w_X6_feed_125 C ih hP hD hS hl h
def b_X6_feed_0 (N : Nat) (x1 : Int32) (x2 : Int32) (x3 : Int32) (x4 : Int32) (x5 : Int32) (x6 : Int32) (M : Mem) : Option (Int32 × Mem) := (f_X6_in x1 (1 : Int32) (5 : Int32) M).bind fun r3 => (if r3 = true then (f_X6_isByte x2 M).bind fun r10 => (if r10 = true then (f_X6_isByte x3 M).bind fun r17 => (if r17 = true then (f_X6_isByte x4 M).bind fun r25 => (if r25 = true then (f_X6_isByte x5 M).bind fun r33 => (if r33 = true then (f_X6_isByte x6 M).bind fun r41 => (if r41 = true then (if ((FI M 100 9) + x1) ≤ (160 : Int32) then b_X6_feed_68 N x1 x2 x3 x4 x5 x6 N (0 : Int32) M else some ((-4 : Int32), M)) else some ((-2 : Int32), M)) else some ((-2 : Int32), M)) else some ((-2 : Int32), M)) else some ((-2 : Int32), M)) else some ((-2 : Int32), M)) else some ((-2 : Int32), M))
set_option maxHeartbeats 4000000 in
set_option maxRecDepth 100000 in
theorem w_X6_feed_0 (C : CX p s m args meth c cX6_feed 8 (some .int) RX6 D cy ad zz 100 21 A) {N : Nat} {M : Mem} {x1 : Int32} {x2 : Int32} {x3 : Int32} {x4 : Int32} {x5 : Int32} {x6 : Int32} {rr : Int32} {M' : Mem} {H : Heap} {locs : List Loc} (hP : va_P D vwCl (pool cy ad 100 21 M) H) (hD : va_D A (pool cy ad 100 21 M)) (hS : va_S A s.heap H locs) {ls : Array Slot} (hl : lv_has ls 8 [(0, .ref (ad 100)), (1, .int x1), (2, .int x2), (3, .int x3), (4, .int x4), (5, .int x5), (6, .int x6)]) (h : b_X6_feed_0 N x1 x2 x3 x4 x5 x6 M = some (rr, M')) : W p l e ({ frames := 2, cells := 0, slots := 0, locals := 42 } : Room) s m args below meth c H locs 0 0 (MQ below (va_Qi (fun (x : Int32) (_ : Unit) => x = rr) (fun _ t => PA D cy ad 100 21 A M' t) A) args s 0 0 A) (F0 m 0 ls []) := by
  obtain ⟨hx, hb, hml, hown, hts, hr, hlk, hK, hN, hA, hX⟩ := id C
  unfold b_X6_feed_0 at h
  refine lv_iload_n hx hb dX6_feed_0 rfl (lv_at hl 1 rfl) ?_
  refine lv_iconst (v := 1) hx hb dX6_feed_1 (by decide) ?_
  refine lv_iconst (v := 5) hx hb dX6_feed_2 (by decide) ?_
  obtain ⟨r3, g3, h⟩ := bd_of h
  refine call_iS (As := [.int x1, .int (1 : Int32), .int (5 : Int32)]) (rest := []) C hP hD hS (c_X6_in g3) (gS wd_843 wd_844 wd_75 wd_845) es_X6_in ⟨rfl, rfl⟩ ⟨Nat.le_of_ble_eq_true rfl, Nat.le_of_ble_eq_true rfl⟩ hl.1 rfl (Nat.le_of_ble_eq_true rfl) dX6_feed_3 (fun H locs hP hD hS => ?_)
  refine lv_if_eq (tgt := 47) hx hb dX6_feed_6 (by decide) (fun c6 => ?_) (fun c6 => ?_)
  · replace h := it_f (b2i_n c6) h
    refine lv_bipush (v := -2) hx hb dX6_feed_47 (by decide) ?_
    exact rt_i (r := (-2 : Int32)) C hP hD hS dX6_feed_49 (rw_end h)
  · replace h := it_t (b2i_1 c6) h
    refine lv_iload_n hx hb dX6_feed_9 rfl (lv_at hl 2 rfl) ?_
    obtain ⟨r10, g10, h⟩ := bd_of h
    refine call_iS (As := [.int x2]) (rest := []) C hP hD hS (c_X6_isByte g10) (gS wd_1022 wd_1023 wd_75 wd_1024) es_X6_isByte ⟨rfl, rfl⟩ ⟨Nat.le_of_ble_eq_true rfl, Nat.le_of_ble_eq_true rfl⟩ hl.1 rfl (Nat.le_of_ble_eq_true rfl) dX6_feed_10 (fun H locs hP hD hS => ?_)
    refine lv_if_eq (tgt := 47) hx hb dX6_feed_13 (by decide) (fun c13 => ?_) (fun c13 => ?_)
    · replace h := it_f (b2i_n c13) h
      refine lv_bipush (v := -2) hx hb dX6_feed_47 (by decide) ?_
      exact rt_i (r := (-2 : Int32)) C hP hD hS dX6_feed_49 (rw_end h)
    · replace h := it_t (b2i_1 c13) h
      refine lv_iload_n hx hb dX6_feed_16 rfl (lv_at hl 3 rfl) ?_
      obtain ⟨r17, g17, h⟩ := bd_of h
      refine call_iS (As := [.int x3]) (rest := []) C hP hD hS (c_X6_isByte g17) (gS wd_1022 wd_1023 wd_75 wd_1024) es_X6_isByte ⟨rfl, rfl⟩ ⟨Nat.le_of_ble_eq_true rfl, Nat.le_of_ble_eq_true rfl⟩ hl.1 rfl (Nat.le_of_ble_eq_true rfl) dX6_feed_17 (fun H locs hP hD hS => ?_)
      refine lv_if_eq (tgt := 47) hx hb dX6_feed_20 (by decide) (fun c20 => ?_) (fun c20 => ?_)
      · replace h := it_f (b2i_n c20) h
        refine lv_bipush (v := -2) hx hb dX6_feed_47 (by decide) ?_
        exact rt_i (r := (-2 : Int32)) C hP hD hS dX6_feed_49 (rw_end h)
      · replace h := it_t (b2i_1 c20) h
        refine lv_iload hx hb dX6_feed_23 (lv_at hl 4 rfl) ?_
        obtain ⟨r25, g25, h⟩ := bd_of h
        refine call_iS (As := [.int x4]) (rest := []) C hP hD hS (c_X6_isByte g25) (gS wd_1022 wd_1023 wd_75 wd_1024) es_X6_isByte ⟨rfl, rfl⟩ ⟨Nat.le_of_ble_eq_true rfl, Nat.le_of_ble_eq_true rfl⟩ hl.1 rfl (Nat.le_of_ble_eq_true rfl) dX6_feed_25 (fun H locs hP hD hS => ?_)
        refine lv_if_eq (tgt := 47) hx hb dX6_feed_28 (by decide) (fun c28 => ?_) (fun c28 => ?_)
        · replace h := it_f (b2i_n c28) h
          refine lv_bipush (v := -2) hx hb dX6_feed_47 (by decide) ?_
          exact rt_i (r := (-2 : Int32)) C hP hD hS dX6_feed_49 (rw_end h)
        · replace h := it_t (b2i_1 c28) h
          refine lv_iload hx hb dX6_feed_31 (lv_at hl 5 rfl) ?_
          obtain ⟨r33, g33, h⟩ := bd_of h
          refine call_iS (As := [.int x5]) (rest := []) C hP hD hS (c_X6_isByte g33) (gS wd_1022 wd_1023 wd_75 wd_1024) es_X6_isByte ⟨rfl, rfl⟩ ⟨Nat.le_of_ble_eq_true rfl, Nat.le_of_ble_eq_true rfl⟩ hl.1 rfl (Nat.le_of_ble_eq_true rfl) dX6_feed_33 (fun H locs hP hD hS => ?_)
          refine lv_if_eq (tgt := 47) hx hb dX6_feed_36 (by decide) (fun c36 => ?_) (fun c36 => ?_)
          · replace h := it_f (b2i_n c36) h
            refine lv_bipush (v := -2) hx hb dX6_feed_47 (by decide) ?_
            exact rt_i (r := (-2 : Int32)) C hP hD hS dX6_feed_49 (rw_end h)
          · replace h := it_t (b2i_1 c36) h
            refine lv_iload hx hb dX6_feed_39 (lv_at hl 6 rfl) ?_
            obtain ⟨r41, g41, h⟩ := bd_of h
            refine call_iS (As := [.int x6]) (rest := []) C hP hD hS (c_X6_isByte g41) (gS wd_1022 wd_1023 wd_75 wd_1024) es_X6_isByte ⟨rfl, rfl⟩ ⟨Nat.le_of_ble_eq_true rfl, Nat.le_of_ble_eq_true rfl⟩ hl.1 rfl (Nat.le_of_ble_eq_true rfl) dX6_feed_41 (fun H locs hP hD hS => ?_)
            refine lv_if_ne (tgt := 50) hx hb dX6_feed_44 (by decide) (fun c44 => ?_) (fun c44 => ?_)
            · replace h := it_t (b2i_1 c44) h
              refine lv_aload_n hx hb dX6_feed_50 rfl (lv_at hl 0 rfl) ?_
              refine gf_6_9 C hP (iL (by decide)) (by decide) wd_891 dX6_feed_51 ?_
              refine lv_iload_n hx hb dX6_feed_54 rfl (lv_at hl 1 rfl) ?_
              refine lv_iadd hx hb dX6_feed_55 ?_
              refine lv_sipush (v := 160) hx hb dX6_feed_56 (by decide) ?_
              refine lv_icmp_le (tgt := 65) hx hb dX6_feed_59 (by decide) (fun c59 => ?_) (fun c59 => ?_)
              · replace h := it_t c59 h
                refine lv_iconst (v := 0) hx hb dX6_feed_65 (by decide) ?_
                refine lv_istore (lv' := [(7, .int (0 : Int32)), (0, .ref (ad 100)), (1, .int x1), (2, .int x2), (3, .int x3), (4, .int x4), (5, .int x5), (6, .int x6)]) hx hb dX6_feed_66 hl (by decide) rfl (fun ls hl => ?_)
                exact w_X6_feed_68 C N _ _ _ _ hP hD hS _ (lv_sub hl [1, 2, 3, 4, 5, 6, 7, 0] rfl) h
              · replace h := it_f c59 h
                refine lv_bipush (v := -4) hx hb dX6_feed_62 (by decide) ?_
                exact rt_i (r := (-4 : Int32)) C hP hD hS dX6_feed_64 (rw_end h)
            · replace h := it_f (b2i_n c44) h
              refine lv_bipush (v := -2) hx hb dX6_feed_47 (by decide) ?_
              exact rt_i (r := (-2 : Int32)) C hP hD hS dX6_feed_49 (rw_end h)
def f_X6_feed (N : Nat) (x1 : Int32) (x2 : Int32) (x3 : Int32) (x4 : Int32) (x5 : Int32) (x6 : Int32) (M : Mem) : Option (Int32 × Mem) := b_X6_feed_0 N x1 x2 x3 x4 x5 x6 M
theorem c_X6_feed {l : Launch} {D : va_G} {cy : Nat → ClassId} {ad : Nat → Nat} {zz : (Nat → Nat) × (Nat → Nat)} {N : Nat} {x1 : Int32} {x2 : Int32} {x3 : Int32} {x4 : Int32} {x5 : Int32} {x6 : Int32} {M : Mem} {rr : Int32} {M' : Mem} (h : f_X6_feed N x1 x2 x3 x4 x5 x6 M = some (rr, M')) : CTi l D cy ad zz 100 21 yX6_feed (.code yX6_feed cX6_feed 8 (some .int) :: tb) ({ frames := 2, cells := 0, slots := 0, locals := 42 } : Room) [.ref (ad 100), .int x1, .int x2, .int x3, .int x4, .int x5, .int x6] M rr M' := by
  intro sz
  refine CX.of (by decide +kernel) (fun p e s m args below meth c H ls C hP hD hS hl => ?_) (Nat.le_of_ble_eq_true rfl)
  exact w_X6_feed_0 C hP hD hS hl h
theorem ev_X6_feed : yX6_feed.cls = RX6 ∧ yX6_feed.cls ≠ "java/lang/invoke/MethodHandle" ∧ yX6_feed.cls ≠ "java/lang/invoke/VarHandle" ∧ (parseMethodDescriptor yX6_feed.desc).map (fun d => d.parameters.length) = some 6 := by decide +kernel
def b_X6_wordFrom_88 (N : Nat) (M : Mem) (x1 : Int32) (x2 : Int32) (k2 : Int32 → Option (Int32)) (x3 : Int32) (x4 : Int32) : Option (Int32) := (if x4 = 0 then k2 (x3 + (1 : Int32)) else some x3)
set_option maxHeartbeats 4000000 in
set_option maxRecDepth 100000 in
theorem w_X6_wordFrom_88 (C : CX p s m args meth c cX6_wordFrom 6 (some .int) RX6 D cy ad zz 100 21 A) {N : Nat} {M : Mem} {x1 : Int32} {x2 : Int32} {k2 : Int32 → Option (Int32)} {rr : Int32} (hk2 : ∀ (x3 : Int32), ∀ (H : Heap) (locs : List Loc), va_P D vwCl (pool cy ad 100 21 M) H → va_D A (pool cy ad 100 21 M) → va_S A s.heap H locs → ∀ (ls : Array Slot), lv_has ls 6 [(0, .ref (ad 100)), (1, .int x1), (2, .int x2), (3, .int x3)] → k2 x3 = some rr → W p l e ({ frames := 0, cells := 0, slots := 0, locals := 0 } : Room) s m args below meth c H locs 0 0 (MQ below (va_Qi (fun (x : Int32) (_ : Unit) => x = rr) (fun _ t => PA D cy ad 100 21 A M t) A) args s 0 0 A) (F0 m 2 ls [])) {x3 : Int32} {x4 : Int32} {H : Heap} {locs : List Loc} (hP : va_P D vwCl (pool cy ad 100 21 M) H) (hD : va_D A (pool cy ad 100 21 M)) (hS : va_S A s.heap H locs) {ls : Array Slot} (hl : lv_has ls 6 [(0, .ref (ad 100)), (1, .int x1), (2, .int x2), (3, .int x3), (4, .int x4)]) (h : b_X6_wordFrom_88 N M x1 x2 k2 x3 x4 = some rr) : W p l e ({ frames := 0, cells := 0, slots := 0, locals := 0 } : Room) s m args below meth c H locs 0 0 (MQ below (va_Qi (fun (x : Int32) (_ : Unit) => x = rr) (fun _ t => PA D cy ad 100 21 A M t) A) args s 0 0 A) (F0 m 88 ls []) := by
  obtain ⟨hx, hb, hml, hown, hts, hr, hlk, hK, hN, hA, hX⟩ := id C
  unfold b_X6_wordFrom_88 at h
  refine lv_iload hx hb dX6_wordFrom_88 (lv_at hl 4 rfl) ?_
  refine lv_if_eq (tgt := 95) hx hb dX6_wordFrom_90 (by decide) (fun c90 => ?_) (fun c90 => ?_)
  · replace h := it_t c90 h
    refine lv_iinc (v := (x3 + (1 : Int32))) (lv' := [(3, .int (x3 + (1 : Int32))), (0, .ref (ad 100)), (1, .int x1), (2, .int x2), (4, .int x4)]) hx hb dX6_wordFrom_95 hl (k := 3) rfl rfl (by decide) rfl (fun ls hl => ?_)
    refine lv_goto (tgt := 2) hx hb dX6_wordFrom_98 (by decide) ?_
    exact hk2 _ _ _ hP hD hS _ (lv_sub hl [1, 2, 3, 0] rfl) h
  · replace h := it_f c90 h
    refine lv_iload_n hx hb dX6_wordFrom_93 rfl (lv_at hl 3 rfl) ?_
    exact rt_i (r := x3) C hP hD hS dX6_wordFrom_94 ⟨Option.some.inj h, rfl⟩
def b_X6_wordFrom_80 (N : Nat) (M : Mem) (x1 : Int32) (x2 : Int32) (k2 : Int32 → Option (Int32)) (k26 : Int32 → Int32 → Int32 → Option (Int32)) (x3 : Int32) (x5 : Int32) (t0 : Int32) : Option (Int32) := k26 x3 t0 (x5 + (1 : Int32))
set_option maxHeartbeats 4000000 in
set_option maxRecDepth 100000 in
theorem w_X6_wordFrom_80 (C : CX p s m args meth c cX6_wordFrom 6 (some .int) RX6 D cy ad zz 100 21 A) {N : Nat} {M : Mem} {x1 : Int32} {x2 : Int32} {k2 : Int32 → Option (Int32)} {k26 : Int32 → Int32 → Int32 → Option (Int32)} {rr : Int32} (hk2 : ∀ (x3 : Int32), ∀ (H : Heap) (locs : List Loc), va_P D vwCl (pool cy ad 100 21 M) H → va_D A (pool cy ad 100 21 M) → va_S A s.heap H locs → ∀ (ls : Array Slot), lv_has ls 6 [(0, .ref (ad 100)), (1, .int x1), (2, .int x2), (3, .int x3)] → k2 x3 = some rr → W p l e ({ frames := 0, cells := 0, slots := 0, locals := 0 } : Room) s m args below meth c H locs 0 0 (MQ below (va_Qi (fun (x : Int32) (_ : Unit) => x = rr) (fun _ t => PA D cy ad 100 21 A M t) A) args s 0 0 A) (F0 m 2 ls [])) (hk26 : ∀ (x3 : Int32), ∀ (x4 : Int32), ∀ (x5 : Int32), ∀ (H : Heap) (locs : List Loc), va_P D vwCl (pool cy ad 100 21 M) H → va_D A (pool cy ad 100 21 M) → va_S A s.heap H locs → ∀ (ls : Array Slot), lv_has ls 6 [(0, .ref (ad 100)), (1, .int x1), (2, .int x2), (3, .int x3), (4, .int x4), (5, .int x5)] → k26 x3 x4 x5 = some rr → W p l e ({ frames := 0, cells := 0, slots := 0, locals := 0 } : Room) s m args below meth c H locs 0 0 (MQ below (va_Qi (fun (x : Int32) (_ : Unit) => x = rr) (fun _ t => PA D cy ad 100 21 A M t) A) args s 0 0 A) (F0 m 26 ls [])) {x3 : Int32} {x5 : Int32} {t0 : Int32} {H : Heap} {locs : List Loc} (hP : va_P D vwCl (pool cy ad 100 21 M) H) (hD : va_D A (pool cy ad 100 21 M)) (hS : va_S A s.heap H locs) {ls : Array Slot} (hl : lv_has ls 6 [(0, .ref (ad 100)), (1, .int x1), (2, .int x2), (3, .int x3), (5, .int x5)]) (h : b_X6_wordFrom_80 N M x1 x2 k2 k26 x3 x5 t0 = some rr) : W p l e ({ frames := 0, cells := 0, slots := 0, locals := 0 } : Room) s m args below meth c H locs 0 0 (MQ below (va_Qi (fun (x : Int32) (_ : Unit) => x = rr) (fun _ t => PA D cy ad 100 21 A M t) A) args s 0 0 A) (F0 m 80 ls [.int t0]) := by
  obtain ⟨hx, hb, hml, hown, hts, hr, hlk, hK, hN, hA, hX⟩ := id C
  unfold b_X6_wordFrom_80 at h
  refine lv_istore (lv' := [(4, .int t0), (0, .ref (ad 100)), (1, .int x1), (2, .int x2), (3, .int x3), (5, .int x5)]) hx hb dX6_wordFrom_80 hl (by decide) rfl (fun ls hl => ?_)
  refine lv_iinc (v := (x5 + (1 : Int32))) (lv' := [(5, .int (x5 + (1 : Int32))), (4, .int t0), (0, .ref (ad 100)), (1, .int x1), (2, .int x2), (3, .int x3)]) hx hb dX6_wordFrom_82 hl (k := 5) rfl rfl (by decide) rfl (fun ls hl => ?_)
  refine lv_goto (tgt := 26) hx hb dX6_wordFrom_85 (by decide) ?_
  exact hk26 _ _ _ _ _ hP hD hS _ (lv_sub hl [2, 3, 4, 5, 1, 0] rfl) h
def b_X6_wordFrom_72 (N : Nat) (M : Mem) (x1 : Int32) (x2 : Int32) (k2 : Int32 → Option (Int32)) (k26 : Int32 → Int32 → Int32 → Option (Int32)) (x3 : Int32) (x5 : Int32) (t0 : Int32) (t1 : Int32) : Option (Int32) := (if t0 = t1 then b_X6_wordFrom_80 N M x1 x2 k2 k26 x3 x5 (1 : Int32) else b_X6_wordFrom_80 N M x1 x2 k2 k26 x3 x5 (0 : Int32))
set_option maxHeartbeats 4000000 in
set_option maxRecDepth 100000 in
theorem w_X6_wordFrom_72 (C : CX p s m args meth c cX6_wordFrom 6 (some .int) RX6 D cy ad zz 100 21 A) {N : Nat} {M : Mem} {x1 : Int32} {x2 : Int32} {k2 : Int32 → Option (Int32)} {k26 : Int32 → Int32 → Int32 → Option (Int32)} {rr : Int32} (hk2 : ∀ (x3 : Int32), ∀ (H : Heap) (locs : List Loc), va_P D vwCl (pool cy ad 100 21 M) H → va_D A (pool cy ad 100 21 M) → va_S A s.heap H locs → ∀ (ls : Array Slot), lv_has ls 6 [(0, .ref (ad 100)), (1, .int x1), (2, .int x2), (3, .int x3)] → k2 x3 = some rr → W p l e ({ frames := 0, cells := 0, slots := 0, locals := 0 } : Room) s m args below meth c H locs 0 0 (MQ below (va_Qi (fun (x : Int32) (_ : Unit) => x = rr) (fun _ t => PA D cy ad 100 21 A M t) A) args s 0 0 A) (F0 m 2 ls [])) (hk26 : ∀ (x3 : Int32), ∀ (x4 : Int32), ∀ (x5 : Int32), ∀ (H : Heap) (locs : List Loc), va_P D vwCl (pool cy ad 100 21 M) H → va_D A (pool cy ad 100 21 M) → va_S A s.heap H locs → ∀ (ls : Array Slot), lv_has ls 6 [(0, .ref (ad 100)), (1, .int x1), (2, .int x2), (3, .int x3), (4, .int x4), (5, .int x5)] → k26 x3 x4 x5 = some rr → W p l e ({ frames := 0, cells := 0, slots := 0, locals := 0 } : Room) s m args below meth c H locs 0 0 (MQ below (va_Qi (fun (x : Int32) (_ : Unit) => x = rr) (fun _ t => PA D cy ad 100 21 A M t) A) args s 0 0 A) (F0 m 26 ls [])) {x3 : Int32} {x5 : Int32} {t0 : Int32} {t1 : Int32} {H : Heap} {locs : List Loc} (hP : va_P D vwCl (pool cy ad 100 21 M) H) (hD : va_D A (pool cy ad 100 21 M)) (hS : va_S A s.heap H locs) {ls : Array Slot} (hl : lv_has ls 6 [(0, .ref (ad 100)), (1, .int x1), (2, .int x2), (3, .int x3), (5, .int x5)]) (h : b_X6_wordFrom_72 N M x1 x2 k2 k26 x3 x5 t0 t1 = some rr) : W p l e ({ frames := 0, cells := 0, slots := 0, locals := 0 } : Room) s m args below meth c H locs 0 0 (MQ below (va_Qi (fun (x : Int32) (_ : Unit) => x = rr) (fun _ t => PA D cy ad 100 21 A M t) A) args s 0 0 A) (F0 m 72 ls [.int t1, .int t0]) := by
  obtain ⟨hx, hb, hml, hown, hts, hr, hlk, hK, hN, hA, hX⟩ := id C
  unfold b_X6_wordFrom_72 at h
  refine lv_icmp_ne (tgt := 79) hx hb dX6_wordFrom_72 (by decide) (fun c72 => ?_) (fun c72 => ?_)
  · replace h := it_f c72 h
    refine lv_iconst (v := 0) hx hb dX6_wordFrom_79 (by decide) ?_
    exact w_X6_wordFrom_80 C hk2 hk26 hP hD hS hl h
  · replace h := it_t c72 h
    refine lv_iconst (v := 1) hx hb dX6_wordFrom_75 (by decide) ?_
    refine lv_goto (tgt := 80) hx hb dX6_wordFrom_76 (by decide) ?_
    exact w_X6_wordFrom_80 C hk2 hk26 hP hD hS hl h
def b_X6_wordFrom_26 (N : Nat) (M : Mem) (x1 : Int32) (x2 : Int32) (k2 : Int32 → Option (Int32)) : Nat → Int32 → Int32 → Int32 → Option (Int32)
  | 0, _, _, _ => none
  | fu + 1, x3, x4, x5 => (if (8 : Int32) ≤ x5 then b_X6_wordFrom_88 N M x1 x2 k2 x3 x4 else (if x4 = 0 then b_X6_wordFrom_88 N M x1 x2 k2 x3 x4 else gd (inb (((8 : Int32) * x3) + x5) (len 115)) ((if x2 ≤ (x1 + x5) then b_X6_wordFrom_72 N M x1 x2 k2 (b_X6_wordFrom_26 N M x1 x2 k2 fu) x3 x5 (AI M 115 (((8 : Int32) * x3) + x5).toNatClampNeg) (32 : Int32) else gd (inb (x1 + x5) (len 106)) (b_X6_wordFrom_72 N M x1 x2 k2 (b_X6_wordFrom_26 N M x1 x2 k2 fu) x3 x5 (AI M 115 (((8 : Int32) * x3) + x5).toNatClampNeg) (AI M 106 (x1 + x5).toNatClampNeg))))))
set_option maxHeartbeats 4000000 in
set_option maxRecDepth 100000 in
theorem w_X6_wordFrom_26 (C : CX p s m args meth c cX6_wordFrom 6 (some .int) RX6 D cy ad zz 100 21 A) {N : Nat} {M : Mem} {x1 : Int32} {x2 : Int32} {k2 : Int32 → Option (Int32)} {rr : Int32} (hk2 : ∀ (x3 : Int32), ∀ (H : Heap) (locs : List Loc), va_P D vwCl (pool cy ad 100 21 M) H → va_D A (pool cy ad 100 21 M) → va_S A s.heap H locs → ∀ (ls : Array Slot), lv_has ls 6 [(0, .ref (ad 100)), (1, .int x1), (2, .int x2), (3, .int x3)] → k2 x3 = some rr → W p l e ({ frames := 0, cells := 0, slots := 0, locals := 0 } : Room) s m args below meth c H locs 0 0 (MQ below (va_Qi (fun (x : Int32) (_ : Unit) => x = rr) (fun _ t => PA D cy ad 100 21 A M t) A) args s 0 0 A) (F0 m 2 ls []))  : ∀ (fu : Nat), ∀ (x3 : Int32), ∀ (x4 : Int32), ∀ (x5 : Int32), ∀ (H : Heap) (locs : List Loc), va_P D vwCl (pool cy ad 100 21 M) H → va_D A (pool cy ad 100 21 M) → va_S A s.heap H locs → ∀ (ls : Array Slot), lv_has ls 6 [(0, .ref (ad 100)), (1, .int x1), (2, .int x2), (3, .int x3), (4, .int x4), (5, .int x5)] → b_X6_wordFrom_26 N M x1 x2 k2 fu x3 x4 x5 = some rr → W p l e ({ frames := 0, cells := 0, slots := 0, locals := 0 } : Room) s m args below meth c H locs 0 0 (MQ below (va_Qi (fun (x : Int32) (_ : Unit) => x = rr) (fun _ t => PA D cy ad 100 21 A M t) A) args s 0 0 A) (F0 m 26 ls []) := by
  obtain ⟨hx, hb, hml, hown, hts, hr, hlk, hK, hN, hA, hX⟩ := id C
  intro fu
  induction fu with
  | zero =>
    intro x3 x4 x5 H locs hP hD hS ls hl h
    exact no_some (show none = some _ from h)
  | succ fu ih =>
    intro x3 x4 x5 H locs hP hD hS ls hl h
    rw [b_X6_wordFrom_26] at h
    refine lv_iload hx hb dX6_wordFrom_26 (lv_at hl 5 rfl) ?_
    refine lv_bipush (v := 8) hx hb dX6_wordFrom_28 (by decide) ?_
    refine lv_icmp_ge (tgt := 88) hx hb dX6_wordFrom_30 (by decide) (fun c30 => ?_) (fun c30 => ?_)
    · replace h := it_t c30 h
      exact w_X6_wordFrom_88 C hk2 hP hD hS (lv_sub hl [0, 1, 2, 3, 4] rfl) h
    · replace h := it_f c30 h
      refine lv_iload hx hb dX6_wordFrom_33 (lv_at hl 4 rfl) ?_
      refine lv_if_eq (tgt := 88) hx hb dX6_wordFrom_35 (by decide) (fun c35 => ?_) (fun c35 => ?_)
      · replace h := it_t c35 h
        exact w_X6_wordFrom_88 C hk2 hP hD hS (lv_sub hl [0, 1, 2, 3, 4] rfl) h
      · replace h := it_f c35 h
        refine lv_aload_n hx hb dX6_wordFrom_38 rfl (lv_at hl 0 rfl) ?_
        refine gf_6_26 C hP (iL (by decide)) (by decide) wd_908 dX6_wordFrom_39 ?_
        refine lv_bipush (v := 8) hx hb dX6_wordFrom_42 (by decide) ?_
        refine lv_iload_n hx hb dX6_wordFrom_44 rfl (lv_at hl 3 rfl) ?_
        refine lv_imul hx hb dX6_wordFrom_45 ?_
        refine lv_iload hx hb dX6_wordFrom_46 (lv_at hl 5 rfl) ?_
        refine lv_iadd hx hb dX6_wordFrom_48 ?_
        obtain ⟨gi1, h⟩ := gd_of h
        refine ia_ld C hP (iL (by decide)) (by decide) gi1 dX6_wordFrom_49 ?_
        refine lv_iload_n hx hb dX6_wordFrom_50 rfl (lv_at hl 1 rfl) ?_
        refine lv_iload hx hb dX6_wordFrom_51 (lv_at hl 5 rfl) ?_
        refine lv_iadd hx hb dX6_wordFrom_53 ?_
        refine lv_iload_n hx hb dX6_wordFrom_54 rfl (lv_at hl 2 rfl) ?_
        refine lv_icmp_ge (tgt := 70) hx hb dX6_wordFrom_55 (by decide) (fun c55 => ?_) (fun c55 => ?_)
        · replace h := it_t c55 h
          refine lv_bipush (v := 32) hx hb dX6_wordFrom_70 (by decide) ?_
          exact w_X6_wordFrom_72 C hk2 ih hP hD hS (lv_sub hl [0, 1, 2, 3, 5] rfl) h
        · replace h := it_f c55 h
          refine lv_aload_n hx hb dX6_wordFrom_58 rfl (lv_at hl 0 rfl) ?_
          refine gf_6_8 C hP (iL (by decide)) (by decide) wd_890 dX6_wordFrom_59 ?_
          refine lv_iload_n hx hb dX6_wordFrom_62 rfl (lv_at hl 1 rfl) ?_
          refine lv_iload hx hb dX6_wordFrom_63 (lv_at hl 5 rfl) ?_
          refine lv_iadd hx hb dX6_wordFrom_65 ?_
          obtain ⟨gi2, h⟩ := gd_of h
          refine ia_ld C hP (iL (by decide)) (by decide) gi2 dX6_wordFrom_66 ?_
          refine lv_goto (tgt := 72) hx hb dX6_wordFrom_67 (by decide) ?_
          exact w_X6_wordFrom_72 C hk2 ih hP hD hS (lv_sub hl [0, 1, 2, 3, 5] rfl) h
def b_X6_wordFrom_21 (N : Nat) (M : Mem) (x1 : Int32) (x2 : Int32) (k2 : Int32 → Option (Int32)) (x3 : Int32) (t0 : Int32) : Option (Int32) := b_X6_wordFrom_26 N M x1 x2 k2 N x3 t0 (0 : Int32)
set_option maxHeartbeats 4000000 in
set_option maxRecDepth 100000 in
theorem w_X6_wordFrom_21 (C : CX p s m args meth c cX6_wordFrom 6 (some .int) RX6 D cy ad zz 100 21 A) {N : Nat} {M : Mem} {x1 : Int32} {x2 : Int32} {k2 : Int32 → Option (Int32)} {rr : Int32} (hk2 : ∀ (x3 : Int32), ∀ (H : Heap) (locs : List Loc), va_P D vwCl (pool cy ad 100 21 M) H → va_D A (pool cy ad 100 21 M) → va_S A s.heap H locs → ∀ (ls : Array Slot), lv_has ls 6 [(0, .ref (ad 100)), (1, .int x1), (2, .int x2), (3, .int x3)] → k2 x3 = some rr → W p l e ({ frames := 0, cells := 0, slots := 0, locals := 0 } : Room) s m args below meth c H locs 0 0 (MQ below (va_Qi (fun (x : Int32) (_ : Unit) => x = rr) (fun _ t => PA D cy ad 100 21 A M t) A) args s 0 0 A) (F0 m 2 ls [])) {x3 : Int32} {t0 : Int32} {H : Heap} {locs : List Loc} (hP : va_P D vwCl (pool cy ad 100 21 M) H) (hD : va_D A (pool cy ad 100 21 M)) (hS : va_S A s.heap H locs) {ls : Array Slot} (hl : lv_has ls 6 [(0, .ref (ad 100)), (1, .int x1), (2, .int x2), (3, .int x3)]) (h : b_X6_wordFrom_21 N M x1 x2 k2 x3 t0 = some rr) : W p l e ({ frames := 0, cells := 0, slots := 0, locals := 0 } : Room) s m args below meth c H locs 0 0 (MQ below (va_Qi (fun (x : Int32) (_ : Unit) => x = rr) (fun _ t => PA D cy ad 100 21 A M t) A) args s 0 0 A) (F0 m 21 ls [.int t0]) := by
  obtain ⟨hx, hb, hml, hown, hts, hr, hlk, hK, hN, hA, hX⟩ := id C
  unfold b_X6_wordFrom_21 at h
  refine lv_istore (lv' := [(4, .int t0), (0, .ref (ad 100)), (1, .int x1), (2, .int x2), (3, .int x3)]) hx hb dX6_wordFrom_21 hl (by decide) rfl (fun ls hl => ?_)
  refine lv_iconst (v := 0) hx hb dX6_wordFrom_23 (by decide) ?_
  refine lv_istore (lv' := [(5, .int (0 : Int32)), (4, .int t0), (0, .ref (ad 100)), (1, .int x1), (2, .int x2), (3, .int x3)]) hx hb dX6_wordFrom_24 hl (by decide) rfl (fun ls hl => ?_)
  exact w_X6_wordFrom_26 C hk2 N _ _ _ _ _ hP hD hS _ (lv_sub hl [2, 3, 4, 5, 1, 0] rfl) h
def b_X6_wordFrom_2 (N : Nat) (M : Mem) (x1 : Int32) (x2 : Int32) : Nat → Int32 → Option (Int32)
  | 0, _ => none
  | fu + 1, x3 => (if (12 : Int32) ≤ x3 then some (12 : Int32) else (if (8 : Int32) < (x2 - x1) then b_X6_wordFrom_21 N M x1 x2 (b_X6_wordFrom_2 N M x1 x2 fu) x3 (0 : Int32) else b_X6_wordFrom_21 N M x1 x2 (b_X6_wordFrom_2 N M x1 x2 fu) x3 (1 : Int32)))
set_option maxHeartbeats 4000000 in
set_option maxRecDepth 100000 in
theorem w_X6_wordFrom_2 (C : CX p s m args meth c cX6_wordFrom 6 (some .int) RX6 D cy ad zz 100 21 A) {N : Nat} {M : Mem} {x1 : Int32} {x2 : Int32} {rr : Int32}  : ∀ (fu : Nat), ∀ (x3 : Int32), ∀ (H : Heap) (locs : List Loc), va_P D vwCl (pool cy ad 100 21 M) H → va_D A (pool cy ad 100 21 M) → va_S A s.heap H locs → ∀ (ls : Array Slot), lv_has ls 6 [(0, .ref (ad 100)), (1, .int x1), (2, .int x2), (3, .int x3)] → b_X6_wordFrom_2 N M x1 x2 fu x3 = some rr → W p l e ({ frames := 0, cells := 0, slots := 0, locals := 0 } : Room) s m args below meth c H locs 0 0 (MQ below (va_Qi (fun (x : Int32) (_ : Unit) => x = rr) (fun _ t => PA D cy ad 100 21 A M t) A) args s 0 0 A) (F0 m 2 ls []) := by
  obtain ⟨hx, hb, hml, hown, hts, hr, hlk, hK, hN, hA, hX⟩ := id C
  intro fu
  induction fu with
  | zero =>
    intro x3 H locs hP hD hS ls hl h
    exact no_some (show none = some _ from h)
  | succ fu ih =>
    intro x3 H locs hP hD hS ls hl h
    rw [b_X6_wordFrom_2] at h
    refine lv_iload_n hx hb dX6_wordFrom_2 rfl (lv_at hl 3 rfl) ?_
    refine lv_bipush (v := 12) hx hb dX6_wordFrom_3 (by decide) ?_
    refine lv_icmp_ge (tgt := 101) hx hb dX6_wordFrom_5 (by decide) (fun c5 => ?_) (fun c5 => ?_)
    · replace h := it_t c5 h
      refine lv_bipush (v := 12) hx hb dX6_wordFrom_101 (by decide) ?_
      exact rt_i (r := (12 : Int32)) C hP hD hS dX6_wordFrom_103 ⟨Option.some.inj h, rfl⟩
    · replace h := it_f c5 h
      refine lv_iload_n hx hb dX6_wordFrom_8 rfl (lv_at hl 2 rfl) ?_
      refine lv_iload_n hx hb dX6_wordFrom_9 rfl (lv_at hl 1 rfl) ?_
      refine lv_isub hx hb dX6_wordFrom_10 ?_
      refine lv_bipush (v := 8) hx hb dX6_wordFrom_11 (by decide) ?_
      refine lv_icmp_gt (tgt := 20) hx hb dX6_wordFrom_13 (by decide) (fun c13 => ?_) (fun c13 => ?_)
      · replace h := it_t c13 h
        refine lv_iconst (v := 0) hx hb dX6_wordFrom_20 (by decide) ?_
        exact w_X6_wordFrom_21 C ih hP hD hS hl h
      · replace h := it_f c13 h
        refine lv_iconst (v := 1) hx hb dX6_wordFrom_16 (by decide) ?_
        refine lv_goto (tgt := 21) hx hb dX6_wordFrom_17 (by decide) ?_
        exact w_X6_wordFrom_21 C ih hP hD hS hl h
def b_X6_wordFrom_0 (N : Nat) (M : Mem) (x1 : Int32) (x2 : Int32) : Option (Int32) := b_X6_wordFrom_2 N M x1 x2 N (0 : Int32)
set_option maxHeartbeats 4000000 in
set_option maxRecDepth 100000 in
theorem w_X6_wordFrom_0 (C : CX p s m args meth c cX6_wordFrom 6 (some .int) RX6 D cy ad zz 100 21 A) {N : Nat} {M : Mem} {x1 : Int32} {x2 : Int32} {rr : Int32} {H : Heap} {locs : List Loc} (hP : va_P D vwCl (pool cy ad 100 21 M) H) (hD : va_D A (pool cy ad 100 21 M)) (hS : va_S A s.heap H locs) {ls : Array Slot} (hl : lv_has ls 6 [(0, .ref (ad 100)), (1, .int x1), (2, .int x2)]) (h : b_X6_wordFrom_0 N M x1 x2 = some rr) : W p l e ({ frames := 0, cells := 0, slots := 0, locals := 0 } : Room) s m args below meth c H locs 0 0 (MQ below (va_Qi (fun (x : Int32) (_ : Unit) => x = rr) (fun _ t => PA D cy ad 100 21 A M t) A) args s 0 0 A) (F0 m 0 ls []) := by
  obtain ⟨hx, hb, hml, hown, hts, hr, hlk, hK, hN, hA, hX⟩ := id C
  unfold b_X6_wordFrom_0 at h
  refine lv_iconst (v := 0) hx hb dX6_wordFrom_0 (by decide) ?_
  refine lv_istore_n (lv' := [(3, .int (0 : Int32)), (0, .ref (ad 100)), (1, .int x1), (2, .int x2)]) hx hb dX6_wordFrom_1 rfl hl (by decide) rfl (fun ls hl => ?_)
  exact w_X6_wordFrom_2 C N _ _ _ hP hD hS _ (lv_sub hl [1, 2, 3, 0] rfl) h
def f_X6_wordFrom (N : Nat) (x1 : Int32) (x2 : Int32) (M : Mem) : Option (Int32) := b_X6_wordFrom_0 N M x1 x2
theorem c_X6_wordFrom {l : Launch} {D : va_G} {cy : Nat → ClassId} {ad : Nat → Nat} {zz : (Nat → Nat) × (Nat → Nat)} {N : Nat} {x1 : Int32} {x2 : Int32} {M : Mem} {rr : Int32} (h : f_X6_wordFrom N x1 x2 M = some rr) : CTi l D cy ad zz 100 21 yX6_wordFrom (.code yX6_wordFrom cX6_wordFrom 6 (some .int) :: tb) ({ frames := 0, cells := 0, slots := 0, locals := 0 } : Room) [.ref (ad 100), .int x1, .int x2] M rr M := by
  intro sz
  refine CX.of (by decide +kernel) (fun p e s m args below meth c H ls C hP hD hS hl => ?_) (Nat.le_of_ble_eq_true rfl)
  exact w_X6_wordFrom_0 C hP hD hS hl h
theorem ev_X6_wordFrom : yX6_wordFrom.cls = RX6 ∧ yX6_wordFrom.cls ≠ "java/lang/invoke/MethodHandle" ∧ yX6_wordFrom.cls ≠ "java/lang/invoke/VarHandle" ∧ (parseMethodDescriptor yX6_wordFrom.desc).map (fun d => d.parameters.length) = some 2 := by decide +kernel
def b_X6_next_393 (N : Nat) (M : Mem) : Option (Mem) := some (sFI M 100 22 ((FI M 100 22) + (1 : Int32)))
set_option maxHeartbeats 4000000 in
set_option maxRecDepth 100000 in
theorem w_X6_next_393 (C : CX p s m args meth c cX6_next 3 none RX6 D cy ad zz 100 21 A) {N : Nat} {M : Mem} {M' : Mem} {H : Heap} {locs : List Loc} (hP : va_P D vwCl (pool cy ad 100 21 M) H) (hD : va_D A (pool cy ad 100 21 M)) (hS : va_S A s.heap H locs) {ls : Array Slot} (hl : lv_has ls 3 [(0, .ref (ad 100))]) (h : b_X6_next_393 N M = some M') : W p l e ({ frames := 1, cells := 0, slots := 0, locals := 25 } : Room) s m args below meth c H locs 0 0 (MQ below (va_Qv (fun (_ : Unit) => True) (fun _ t => PA D cy ad 100 21 A M' t) A) args s 0 0 A) (F0 m 393 ls []) := by
  obtain ⟨hx, hb, hml, hown, hts, hr, hlk, hK, hN, hA, hX⟩ := id C
  unfold b_X6_next_393 at h
  refine lv_aload_n hx hb dX6_next_393 rfl (lv_at hl 0 rfl) ?_
  refine lv_dup hx hb dX6_next_394 rfl ?_
  refine gf_6_22 C hP (iL (by decide)) (by decide) wd_904 dX6_next_395 ?_
  refine lv_iconst (v := 1) hx hb dX6_next_398 (by decide) ?_
  refine lv_iadd hx hb dX6_next_399 ?_
  refine pf_6_22 C hP hD hS (iL (by decide)) (by decide) wd_904 dX6_next_400 (fun H locs hP hD hS => ?_)
  exact rt_v C hP hD hS dX6_next_403 (Option.some.inj h)
def b_X6_next_390 (N : Nat) (t1 : Int32) (M : Mem) : Option (Mem) := b_X6_next_393 N (sFI M 100 24 t1)
set_option maxHeartbeats 4000000 in
set_option maxRecDepth 100000 in
theorem w_X6_next_390 (C : CX p s m args meth c cX6_next 3 none RX6 D cy ad zz 100 21 A) {N : Nat} {M : Mem} {M' : Mem} {t1 : Int32} {H : Heap} {locs : List Loc} (hP : va_P D vwCl (pool cy ad 100 21 M) H) (hD : va_D A (pool cy ad 100 21 M)) (hS : va_S A s.heap H locs) {ls : Array Slot} (hl : lv_has ls 3 [(0, .ref (ad 100))]) (h : b_X6_next_390 N t1 M = some M') : W p l e ({ frames := 1, cells := 0, slots := 0, locals := 25 } : Room) s m args below meth c H locs 0 0 (MQ below (va_Qv (fun (_ : Unit) => True) (fun _ t => PA D cy ad 100 21 A M' t) A) args s 0 0 A) (F0 m 390 ls [.int t1, .ref (ad 100)]) := by
  obtain ⟨hx, hb, hml, hown, hts, hr, hlk, hK, hN, hA, hX⟩ := id C
  unfold b_X6_next_390 at h
  refine pf_6_24 C hP hD hS (iL (by decide)) (by decide) wd_906 dX6_next_390 (fun H locs hP hD hS => ?_)
  exact w_X6_next_393 C hP hD hS hl h
def b_X6_next_379 (N : Nat) (x1 : Int32) (t0 : Int32) (M : Mem) : Option (Mem) := (if t0 = 0 then b_X6_next_390 N (-1 : Int32) M else b_X6_next_390 N x1 M)
set_option maxHeartbeats 4000000 in
set_option maxRecDepth 100000 in
theorem w_X6_next_379 (C : CX p s m args meth c cX6_next 3 none RX6 D cy ad zz 100 21 A) {N : Nat} {M : Mem} {M' : Mem} {x1 : Int32} {t0 : Int32} {H : Heap} {locs : List Loc} (hP : va_P D vwCl (pool cy ad 100 21 M) H) (hD : va_D A (pool cy ad 100 21 M)) (hS : va_S A s.heap H locs) {ls : Array Slot} (hl : lv_has ls 3 [(0, .ref (ad 100)), (1, .int x1)]) (h : b_X6_next_379 N x1 t0 M = some M') : W p l e ({ frames := 1, cells := 0, slots := 0, locals := 25 } : Room) s m args below meth c H locs 0 0 (MQ below (va_Qv (fun (_ : Unit) => True) (fun _ t => PA D cy ad 100 21 A M' t) A) args s 0 0 A) (F0 m 379 ls [.int t0]) := by
  obtain ⟨hx, hb, hml, hown, hts, hr, hlk, hK, hN, hA, hX⟩ := id C
  unfold b_X6_next_379 at h
  refine lv_istore_n (lv' := [(2, .int t0), (0, .ref (ad 100)), (1, .int x1)]) hx hb dX6_next_379 rfl hl (by decide) rfl (fun ls hl => ?_)
  refine lv_aload_n hx hb dX6_next_380 rfl (lv_at hl 1 rfl) ?_
  refine lv_iload_n hx hb dX6_next_381 rfl (lv_at hl 0 rfl) ?_
  refine lv_if_eq (tgt := 389) hx hb dX6_next_382 (by decide) (fun c382 => ?_) (fun c382 => ?_)
  · replace h := it_t c382 h
    refine lv_iconst (v := -1) hx hb dX6_next_389 (by decide) ?_
    exact w_X6_next_390 C hP hD hS (lv_sub hl [1] rfl) h
  · replace h := it_f c382 h
    refine lv_iload_n hx hb dX6_next_385 rfl (lv_at hl 2 rfl) ?_
    refine lv_goto (tgt := 390) hx hb dX6_next_386 (by decide) ?_
    exact w_X6_next_390 C hP hD hS (lv_sub hl [1] rfl) h
def b_X6_next_374 (N : Nat) (x1 : Int32) (M : Mem) : Option (Mem) := b_X6_next_379 N x1 (1 : Int32) M
set_option maxHeartbeats 4000000 in
set_option maxRecDepth 100000 in
theorem w_X6_next_374 (C : CX p s m args meth c cX6_next 3 none RX6 D cy ad zz 100 21 A) {N : Nat} {M : Mem} {M' : Mem} {x1 : Int32} {H : Heap} {locs : List Loc} (hP : va_P D vwCl (pool cy ad 100 21 M) H) (hD : va_D A (pool cy ad 100 21 M)) (hS : va_S A s.heap H locs) {ls : Array Slot} (hl : lv_has ls 3 [(0, .ref (ad 100)), (1, .int x1)]) (h : b_X6_next_374 N x1 M = some M') : W p l e ({ frames := 1, cells := 0, slots := 0, locals := 25 } : Room) s m args below meth c H locs 0 0 (MQ below (va_Qv (fun (_ : Unit) => True) (fun _ t => PA D cy ad 100 21 A M' t) A) args s 0 0 A) (F0 m 374 ls []) := by
  obtain ⟨hx, hb, hml, hown, hts, hr, hlk, hK, hN, hA, hX⟩ := id C
  unfold b_X6_next_374 at h
  refine lv_iconst (v := 1) hx hb dX6_next_374 (by decide) ?_
  refine lv_goto (tgt := 379) hx hb dX6_next_375 (by decide) ?_
  exact w_X6_next_379 C hP hD hS hl h
def b_X6_next_320 (N : Nat) (t1 : Int32) (M : Mem) : Option (Mem) := some (sFI M 100 24 t1)
set_option maxHeartbeats 4000000 in
set_option maxRecDepth 100000 in
theorem w_X6_next_320 (C : CX p s m args meth c cX6_next 3 none RX6 D cy ad zz 100 21 A) {N : Nat} {M : Mem} {M' : Mem} {t1 : Int32} {H : Heap} {locs : List Loc} (hP : va_P D vwCl (pool cy ad 100 21 M) H) (hD : va_D A (pool cy ad 100 21 M)) (hS : va_S A s.heap H locs) {ls : Array Slot} (hl : lv_has ls 3 []) (h : b_X6_next_320 N t1 M = some M') : W p l e ({ frames := 1, cells := 0, slots := 0, locals := 25 } : Room) s m args below meth c H locs 0 0 (MQ below (va_Qv (fun (_ : Unit) => True) (fun _ t => PA D cy ad 100 21 A M' t) A) args s 0 0 A) (F0 m 320 ls [.int t1, .ref (ad 100)]) := by
  obtain ⟨hx, hb, hml, hown, hts, hr, hlk, hK, hN, hA, hX⟩ := id C
  unfold b_X6_next_320 at h
  refine pf_6_24 C hP hD hS (iL (by decide)) (by decide) wd_906 dX6_next_320 (fun H locs hP hD hS => ?_)
  refine lv_goto (tgt := 403) hx hb dX6_next_323 (by decide) ?_
  exact rt_v C hP hD hS dX6_next_403 (Option.some.inj h)
def b_X6_next_309 (N : Nat) (x2 : Int32) (M : Mem) : Option (Mem) := (if x2 ≤ (4 : Int32) then b_X6_next_320 N (1 : Int32) M else b_X6_next_320 N (-1 : Int32) M)
set_option maxHeartbeats 4000000 in
set_option maxRecDepth 100000 in
theorem w_X6_next_309 (C : CX p s m args meth c cX6_next 3 none RX6 D cy ad zz 100 21 A) {N : Nat} {M : Mem} {M' : Mem} {x2 : Int32} {H : Heap} {locs : List Loc} (hP : va_P D vwCl (pool cy ad 100 21 M) H) (hD : va_D A (pool cy ad 100 21 M)) (hS : va_S A s.heap H locs) {ls : Array Slot} (hl : lv_has ls 3 [(0, .ref (ad 100)), (2, .int x2)]) (h : b_X6_next_309 N x2 M = some M') : W p l e ({ frames := 1, cells := 0, slots := 0, locals := 25 } : Room) s m args below meth c H locs 0 0 (MQ below (va_Qv (fun (_ : Unit) => True) (fun _ t => PA D cy ad 100 21 A M' t) A) args s 0 0 A) (F0 m 309 ls []) := by
  obtain ⟨hx, hb, hml, hown, hts, hr, hlk, hK, hN, hA, hX⟩ := id C
  unfold b_X6_next_309 at h
  refine lv_aload_n hx hb dX6_next_309 rfl (lv_at hl 0 rfl) ?_
  refine lv_iload_n hx hb dX6_next_310 rfl (lv_at hl 1 rfl) ?_
  refine lv_iconst (v := 4) hx hb dX6_next_311 (by decide) ?_
  refine lv_icmp_le (tgt := 319) hx hb dX6_next_312 (by decide) (fun c312 => ?_) (fun c312 => ?_)
  · replace h := it_t c312 h
    refine lv_iconst (v := 1) hx hb dX6_next_319 (by decide) ?_
    exact w_X6_next_320 C hP hD hS (lv_sub hl [] rfl) h
  · replace h := it_f c312 h
    refine lv_iconst (v := -1) hx hb dX6_next_315 (by decide) ?_
    refine lv_goto (tgt := 320) hx hb dX6_next_316 (by decide) ?_
    exact w_X6_next_320 C hP hD hS (lv_sub hl [] rfl) h
def b_X6_next_306 (N : Nat) (k230 : Int32 → Mem → Option (Mem)) (x2 : Int32) (M : Mem) : Option (Mem) := k230 x2 M
set_option maxHeartbeats 4000000 in
set_option maxRecDepth 100000 in
theorem w_X6_next_306 (C : CX p s m args meth c cX6_next 3 none RX6 D cy ad zz 100 21 A) {N : Nat} {M : Mem} {k230 : Int32 → Mem → Option (Mem)} {M' : Mem} (hk230 : ∀ (x2 : Int32), ∀ (M : Mem), ∀ (H : Heap) (locs : List Loc), va_P D vwCl (pool cy ad 100 21 M) H → va_D A (pool cy ad 100 21 M) → va_S A s.heap H locs → ∀ (ls : Array Slot), lv_has ls 3 [(0, .ref (ad 100)), (2, .int x2)] → k230 x2 M = some M' → W p l e ({ frames := 1, cells := 0, slots := 0, locals := 25 } : Room) s m args below meth c H locs 0 0 (MQ below (va_Qv (fun (_ : Unit) => True) (fun _ t => PA D cy ad 100 21 A M' t) A) args s 0 0 A) (F0 m 230 ls [])) {x2 : Int32} {H : Heap} {locs : List Loc} (hP : va_P D vwCl (pool cy ad 100 21 M) H) (hD : va_D A (pool cy ad 100 21 M)) (hS : va_S A s.heap H locs) {ls : Array Slot} (hl : lv_has ls 3 [(0, .ref (ad 100)), (2, .int x2)]) (h : b_X6_next_306 N k230 x2 M = some M') : W p l e ({ frames := 1, cells := 0, slots := 0, locals := 25 } : Room) s m args below meth c H locs 0 0 (MQ below (va_Qv (fun (_ : Unit) => True) (fun _ t => PA D cy ad 100 21 A M' t) A) args s 0 0 A) (F0 m 306 ls []) := by
  obtain ⟨hx, hb, hml, hown, hts, hr, hlk, hK, hN, hA, hX⟩ := id C
  unfold b_X6_next_306 at h
  refine lv_goto (tgt := 230) hx hb dX6_next_306 (by decide) ?_
  exact hk230 _ _ _ _ hP hD hS _ hl h
def b_X6_next_293 (N : Nat) (k230 : Int32 → Mem → Option (Mem)) (x2 : Int32) (M : Mem) : Option (Mem) := b_X6_next_306 N k230 (x2 + (1 : Int32)) (sFI M 100 22 ((FI M 100 22) + (1 : Int32)))
set_option maxHeartbeats 4000000 in
set_option maxRecDepth 100000 in
theorem w_X6_next_293 (C : CX p s m args meth c cX6_next 3 none RX6 D cy ad zz 100 21 A) {N : Nat} {M : Mem} {k230 : Int32 → Mem → Option (Mem)} {M' : Mem} (hk230 : ∀ (x2 : Int32), ∀ (M : Mem), ∀ (H : Heap) (locs : List Loc), va_P D vwCl (pool cy ad 100 21 M) H → va_D A (pool cy ad 100 21 M) → va_S A s.heap H locs → ∀ (ls : Array Slot), lv_has ls 3 [(0, .ref (ad 100)), (2, .int x2)] → k230 x2 M = some M' → W p l e ({ frames := 1, cells := 0, slots := 0, locals := 25 } : Room) s m args below meth c H locs 0 0 (MQ below (va_Qv (fun (_ : Unit) => True) (fun _ t => PA D cy ad 100 21 A M' t) A) args s 0 0 A) (F0 m 230 ls [])) {x2 : Int32} {H : Heap} {locs : List Loc} (hP : va_P D vwCl (pool cy ad 100 21 M) H) (hD : va_D A (pool cy ad 100 21 M)) (hS : va_S A s.heap H locs) {ls : Array Slot} (hl : lv_has ls 3 [(0, .ref (ad 100)), (2, .int x2)]) (h : b_X6_next_293 N k230 x2 M = some M') : W p l e ({ frames := 1, cells := 0, slots := 0, locals := 25 } : Room) s m args below meth c H locs 0 0 (MQ below (va_Qv (fun (_ : Unit) => True) (fun _ t => PA D cy ad 100 21 A M' t) A) args s 0 0 A) (F0 m 293 ls []) := by
  obtain ⟨hx, hb, hml, hown, hts, hr, hlk, hK, hN, hA, hX⟩ := id C
  unfold b_X6_next_293 at h
  refine lv_iinc (v := (x2 + (1 : Int32))) (lv' := [(2, .int (x2 + (1 : Int32))), (0, .ref (ad 100))]) hx hb dX6_next_293 hl (k := 1) rfl rfl (by decide) rfl (fun ls hl => ?_)
  refine lv_aload_n hx hb dX6_next_296 rfl (lv_at hl 1 rfl) ?_
  refine lv_dup hx hb dX6_next_297 rfl ?_
  refine gf_6_22 C hP (iL (by decide)) (by decide) wd_904 dX6_next_298 ?_
  refine lv_iconst (v := 1) hx hb dX6_next_301 (by decide) ?_
  refine lv_iadd hx hb dX6_next_302 ?_
  refine pf_6_22 C hP hD hS (iL (by decide)) (by decide) wd_904 dX6_next_303 (fun H locs hP hD hS => ?_)
  exact w_X6_next_306 C hk230 hP hD hS (lv_sub hl [1, 0] rfl) h
def b_X6_next_290 (N : Nat) (k230 : Int32 → Mem → Option (Mem)) (x2 : Int32) (t1 : Int32) (M : Mem) : Option (Mem) := b_X6_next_293 N k230 x2 (sFI M 100 25 t1)
set_option maxHeartbeats 4000000 in
set_option maxRecDepth 100000 in
theorem w_X6_next_290 (C : CX p s m args meth c cX6_next 3 none RX6 D cy ad zz 100 21 A) {N : Nat} {M : Mem} {k230 : Int32 → Mem → Option (Mem)} {M' : Mem} (hk230 : ∀ (x2 : Int32), ∀ (M : Mem), ∀ (H : Heap) (locs : List Loc), va_P D vwCl (pool cy ad 100 21 M) H → va_D A (pool cy ad 100 21 M) → va_S A s.heap H locs → ∀ (ls : Array Slot), lv_has ls 3 [(0, .ref (ad 100)), (2, .int x2)] → k230 x2 M = some M' → W p l e ({ frames := 1, cells := 0, slots := 0, locals := 25 } : Room) s m args below meth c H locs 0 0 (MQ below (va_Qv (fun (_ : Unit) => True) (fun _ t => PA D cy ad 100 21 A M' t) A) args s 0 0 A) (F0 m 230 ls [])) {x2 : Int32} {t1 : Int32} {H : Heap} {locs : List Loc} (hP : va_P D vwCl (pool cy ad 100 21 M) H) (hD : va_D A (pool cy ad 100 21 M)) (hS : va_S A s.heap H locs) {ls : Array Slot} (hl : lv_has ls 3 [(0, .ref (ad 100)), (2, .int x2)]) (h : b_X6_next_290 N k230 x2 t1 M = some M') : W p l e ({ frames := 1, cells := 0, slots := 0, locals := 25 } : Room) s m args below meth c H locs 0 0 (MQ below (va_Qv (fun (_ : Unit) => True) (fun _ t => PA D cy ad 100 21 A M' t) A) args s 0 0 A) (F0 m 290 ls [.int t1, .ref (ad 100)]) := by
  obtain ⟨hx, hb, hml, hown, hts, hr, hlk, hK, hN, hA, hX⟩ := id C
  unfold b_X6_next_290 at h
  refine pf_6_25 C hP hD hS (iL (by decide)) (by decide) wd_907 dX6_next_290 (fun H locs hP hD hS => ?_)
  exact w_X6_next_293 C hk230 hP hD hS hl h
def b_X6_next_230 (N : Nat) : Nat → Int32 → Mem → Option (Mem)
  | 0, _, _ => none
  | fu + 1, x2, M => (if (FI M 100 9) ≤ (FI M 100 22) then b_X6_next_309 N x2 M else gd (inb (FI M 100 22) (len 106)) ((f_X6_in (AI M 106 (FI M 100 22).toNatClampNeg) (48 : Int32) (57 : Int32) M).bind fun r254 => (if r254 = true then (if (4 : Int32) ≤ x2 then b_X6_next_290 N (b_X6_next_230 N fu) x2 (0 : Int32) M else gd (inb (FI M 100 22) (len 106)) (b_X6_next_290 N (b_X6_next_230 N fu) x2 ((((10 : Int32) * (FI M 100 25)) + (AI M 106 (FI M 100 22).toNatClampNeg)) - (48 : Int32)) M)) else b_X6_next_309 N x2 M)))
set_option maxHeartbeats 4000000 in
set_option maxRecDepth 100000 in
theorem w_X6_next_230 (C : CX p s m args meth c cX6_next 3 none RX6 D cy ad zz 100 21 A) {N : Nat} {M' : Mem}  : ∀ (fu : Nat), ∀ (x2 : Int32), ∀ (M : Mem), ∀ (H : Heap) (locs : List Loc), va_P D vwCl (pool cy ad 100 21 M) H → va_D A (pool cy ad 100 21 M) → va_S A s.heap H locs → ∀ (ls : Array Slot), lv_has ls 3 [(0, .ref (ad 100)), (2, .int x2)] → b_X6_next_230 N fu x2 M = some M' → W p l e ({ frames := 1, cells := 0, slots := 0, locals := 25 } : Room) s m args below meth c H locs 0 0 (MQ below (va_Qv (fun (_ : Unit) => True) (fun _ t => PA D cy ad 100 21 A M' t) A) args s 0 0 A) (F0 m 230 ls []) := by
  obtain ⟨hx, hb, hml, hown, hts, hr, hlk, hK, hN, hA, hX⟩ := id C
  intro fu
  induction fu with
  | zero =>
    intro x2 M H locs hP hD hS ls hl h
    exact no_some (show none = some _ from h)
  | succ fu ih =>
    intro x2 M H locs hP hD hS ls hl h
    rw [b_X6_next_230] at h
    refine lv_aload_n hx hb dX6_next_230 rfl (lv_at hl 0 rfl) ?_
    refine gf_6_22 C hP (iL (by decide)) (by decide) wd_904 dX6_next_231 ?_
    refine lv_aload_n hx hb dX6_next_234 rfl (lv_at hl 0 rfl) ?_
    refine gf_6_9 C hP (iL (by decide)) (by decide) wd_891 dX6_next_235 ?_
    refine lv_icmp_ge (tgt := 309) hx hb dX6_next_238 (by decide) (fun c238 => ?_) (fun c238 => ?_)
    · replace h := it_t c238 h
      exact w_X6_next_309 C hP hD hS hl h
    · replace h := it_f c238 h
      refine lv_aload_n hx hb dX6_next_241 rfl (lv_at hl 0 rfl) ?_
      refine gf_6_8 C hP (iL (by decide)) (by decide) wd_890 dX6_next_242 ?_
      refine lv_aload_n hx hb dX6_next_245 rfl (lv_at hl 0 rfl) ?_
      refine gf_6_22 C hP (iL (by decide)) (by decide) wd_904 dX6_next_246 ?_
      obtain ⟨gi1, h⟩ := gd_of h
      refine ia_ld C hP (iL (by decide)) (by decide) gi1 dX6_next_249 ?_
      refine lv_bipush (v := 48) hx hb dX6_next_250 (by decide) ?_
      refine lv_bipush (v := 57) hx hb dX6_next_252 (by decide) ?_
      obtain ⟨r254, g254, h⟩ := bd_of h
      refine call_iS (As := [.int (AI M 106 (FI M 100 22).toNatClampNeg), .int (48 : Int32), .int (57 : Int32)]) (rest := []) C hP hD hS (c_X6_in g254) (gS wd_843 wd_844 wd_75 wd_845) es_X6_in ⟨rfl, rfl⟩ ⟨Nat.le_of_ble_eq_true rfl, Nat.le_of_ble_eq_true rfl⟩ hl.1 rfl (Nat.le_of_ble_eq_true rfl) dX6_next_254 (fun H locs hP hD hS => ?_)
      refine lv_if_eq (tgt := 309) hx hb dX6_next_257 (by decide) (fun c257 => ?_) (fun c257 => ?_)
      · replace h := it_f (b2i_n c257) h
        exact w_X6_next_309 C hP hD hS hl h
      · replace h := it_t (b2i_1 c257) h
        refine lv_aload_n hx hb dX6_next_260 rfl (lv_at hl 0 rfl) ?_
        refine lv_iload_n hx hb dX6_next_261 rfl (lv_at hl 1 rfl) ?_
        refine lv_iconst (v := 4) hx hb dX6_next_262 (by decide) ?_
        refine lv_icmp_ge (tgt := 289) hx hb dX6_next_263 (by decide) (fun c263 => ?_) (fun c263 => ?_)
        · replace h := it_t c263 h
          refine lv_iconst (v := 0) hx hb dX6_next_289 (by decide) ?_
          exact w_X6_next_290 C ih hP hD hS hl h
        · replace h := it_f c263 h
          refine lv_bipush (v := 10) hx hb dX6_next_266 (by decide) ?_
          refine lv_aload_n hx hb dX6_next_268 rfl (lv_at hl 0 rfl) ?_
          refine gf_6_25 C hP (iL (by decide)) (by decide) wd_907 dX6_next_269 ?_
          refine lv_imul hx hb dX6_next_272 ?_
          refine lv_aload_n hx hb dX6_next_273 rfl (lv_at hl 0 rfl) ?_
          refine gf_6_8 C hP (iL (by decide)) (by decide) wd_890 dX6_next_274 ?_
          refine lv_aload_n hx hb dX6_next_277 rfl (lv_at hl 0 rfl) ?_
          refine gf_6_22 C hP (iL (by decide)) (by decide) wd_904 dX6_next_278 ?_
          obtain ⟨gi2, h⟩ := gd_of h
          refine ia_ld C hP (iL (by decide)) (by decide) gi2 dX6_next_281 ?_
          refine lv_iadd hx hb dX6_next_282 ?_
          refine lv_bipush (v := 48) hx hb dX6_next_283 (by decide) ?_
          refine lv_isub hx hb dX6_next_285 ?_
          refine lv_goto (tgt := 290) hx hb dX6_next_286 (by decide) ?_
          exact w_X6_next_290 C ih hP hD hS hl h
def b_X6_next_211 (N : Nat) (t1 : Int32) (M : Mem) : Option (Mem) := some (sFI M 100 25 t1)
set_option maxHeartbeats 4000000 in
set_option maxRecDepth 100000 in
theorem w_X6_next_211 (C : CX p s m args meth c cX6_next 3 none RX6 D cy ad zz 100 21 A) {N : Nat} {M : Mem} {M' : Mem} {t1 : Int32} {H : Heap} {locs : List Loc} (hP : va_P D vwCl (pool cy ad 100 21 M) H) (hD : va_D A (pool cy ad 100 21 M)) (hS : va_S A s.heap H locs) {ls : Array Slot} (hl : lv_has ls 3 []) (h : b_X6_next_211 N t1 M = some M') : W p l e ({ frames := 1, cells := 0, slots := 0, locals := 25 } : Room) s m args below meth c H locs 0 0 (MQ below (va_Qv (fun (_ : Unit) => True) (fun _ t => PA D cy ad 100 21 A M' t) A) args s 0 0 A) (F0 m 211 ls [.int t1, .ref (ad 100)]) := by
  obtain ⟨hx, hb, hml, hown, hts, hr, hlk, hK, hN, hA, hX⟩ := id C
  unfold b_X6_next_211 at h
  refine pf_6_25 C hP hD hS (iL (by decide)) (by decide) wd_907 dX6_next_211 (fun H locs hP hD hS => ?_)
  refine lv_goto (tgt := 403) hx hb dX6_next_214 (by decide) ?_
  exact rt_v C hP hD hS dX6_next_403 (Option.some.inj h)
def b_X6_next_198 (N : Nat) (x2 : Int32) (M : Mem) : Option (Mem) := (if (3 : Int32) ≤ x2 then b_X6_next_211 N (x2 - (3 : Int32)) M else b_X6_next_211 N x2 M)
set_option maxHeartbeats 4000000 in
set_option maxRecDepth 100000 in
theorem w_X6_next_198 (C : CX p s m args meth c cX6_next 3 none RX6 D cy ad zz 100 21 A) {N : Nat} {M : Mem} {M' : Mem} {x2 : Int32} {H : Heap} {locs : List Loc} (hP : va_P D vwCl (pool cy ad 100 21 M) H) (hD : va_D A (pool cy ad 100 21 M)) (hS : va_S A s.heap H locs) {ls : Array Slot} (hl : lv_has ls 3 [(0, .ref (ad 100)), (2, .int x2)]) (h : b_X6_next_198 N x2 M = some M') : W p l e ({ frames := 1, cells := 0, slots := 0, locals := 25 } : Room) s m args below meth c H locs 0 0 (MQ below (va_Qv (fun (_ : Unit) => True) (fun _ t => PA D cy ad 100 21 A M' t) A) args s 0 0 A) (F0 m 198 ls []) := by
  obtain ⟨hx, hb, hml, hown, hts, hr, hlk, hK, hN, hA, hX⟩ := id C
  unfold b_X6_next_198 at h
  refine lv_aload_n hx hb dX6_next_198 rfl (lv_at hl 0 rfl) ?_
  refine lv_iload_n hx hb dX6_next_199 rfl (lv_at hl 1 rfl) ?_
  refine lv_iconst (v := 3) hx hb dX6_next_200 (by decide) ?_
  refine lv_icmp_ge (tgt := 208) hx hb dX6_next_201 (by decide) (fun c201 => ?_) (fun c201 => ?_)
  · replace h := it_t c201 h
    refine lv_iload_n hx hb dX6_next_208 rfl (lv_at hl 1 rfl) ?_
    refine lv_iconst (v := 3) hx hb dX6_next_209 (by decide) ?_
    refine lv_isub hx hb dX6_next_210 ?_
    exact w_X6_next_211 C hP hD hS (lv_sub hl [] rfl) h
  · replace h := it_f c201 h
    refine lv_iload_n hx hb dX6_next_204 rfl (lv_at hl 1 rfl) ?_
    refine lv_goto (tgt := 211) hx hb dX6_next_205 (by decide) ?_
    exact w_X6_next_211 C hP hD hS (lv_sub hl [] rfl) h
def b_X6_next_195 (N : Nat) (x2 : Int32) (t1 : Int32) (M : Mem) : Option (Mem) := b_X6_next_198 N x2 (sFI M 100 24 t1)
set_option maxHeartbeats 4000000 in
set_option maxRecDepth 100000 in
theorem w_X6_next_195 (C : CX p s m args meth c cX6_next 3 none RX6 D cy ad zz 100 21 A) {N : Nat} {M : Mem} {M' : Mem} {x2 : Int32} {t1 : Int32} {H : Heap} {locs : List Loc} (hP : va_P D vwCl (pool cy ad 100 21 M) H) (hD : va_D A (pool cy ad 100 21 M)) (hS : va_S A s.heap H locs) {ls : Array Slot} (hl : lv_has ls 3 [(0, .ref (ad 100)), (2, .int x2)]) (h : b_X6_next_195 N x2 t1 M = some M') : W p l e ({ frames := 1, cells := 0, slots := 0, locals := 25 } : Room) s m args below meth c H locs 0 0 (MQ below (va_Qv (fun (_ : Unit) => True) (fun _ t => PA D cy ad 100 21 A M' t) A) args s 0 0 A) (F0 m 195 ls [.int t1, .ref (ad 100)]) := by
  obtain ⟨hx, hb, hml, hown, hts, hr, hlk, hK, hN, hA, hX⟩ := id C
  unfold b_X6_next_195 at h
  refine pf_6_24 C hP hD hS (iL (by decide)) (by decide) wd_906 dX6_next_195 (fun H locs hP hD hS => ?_)
  exact w_X6_next_198 C hP hD hS hl h
def b_X6_next_146 (N : Nat) (M : Mem) : Option (Mem) := (f_X6_wordFrom N (FI M 100 23) (FI M 100 22) M).bind fun r155 => (if (3 : Int32) ≤ r155 then (if (9 : Int32) ≤ r155 then (if r155 = (12 : Int32) then b_X6_next_195 N r155 (-1 : Int32) M else b_X6_next_195 N r155 (((4 : Int32) + r155) - (9 : Int32)) M) else b_X6_next_195 N r155 (2 : Int32) M) else b_X6_next_195 N r155 (3 : Int32) M)
set_option maxHeartbeats 4000000 in
set_option maxRecDepth 100000 in
theorem w_X6_next_146 (C : CX p s m args meth c cX6_next 3 none RX6 D cy ad zz 100 21 A) {N : Nat} {M : Mem} {M' : Mem} {H : Heap} {locs : List Loc} (hP : va_P D vwCl (pool cy ad 100 21 M) H) (hD : va_D A (pool cy ad 100 21 M)) (hS : va_S A s.heap H locs) {ls : Array Slot} (hl : lv_has ls 3 [(0, .ref (ad 100))]) (h : b_X6_next_146 N M = some M') : W p l e ({ frames := 1, cells := 0, slots := 0, locals := 25 } : Room) s m args below meth c H locs 0 0 (MQ below (va_Qv (fun (_ : Unit) => True) (fun _ t => PA D cy ad 100 21 A M' t) A) args s 0 0 A) (F0 m 146 ls []) := by
  obtain ⟨hx, hb, hml, hown, hts, hr, hlk, hK, hN, hA, hX⟩ := id C
  unfold b_X6_next_146 at h
  refine lv_aload_n hx hb dX6_next_146 rfl (lv_at hl 0 rfl) ?_
  refine lv_aload_n hx hb dX6_next_147 rfl (lv_at hl 0 rfl) ?_
  refine gf_6_23 C hP (iL (by decide)) (by decide) wd_905 dX6_next_148 ?_
  refine lv_aload_n hx hb dX6_next_151 rfl (lv_at hl 0 rfl) ?_
  refine gf_6_22 C hP (iL (by decide)) (by decide) wd_904 dX6_next_152 ?_
  obtain ⟨r155, g155, h⟩ := bd_of h
  refine call_iV (As := [.int (FI M 100 23), .int (FI M 100 22)]) (rest := []) C hP hD hS (c_X6_wordFrom g155) (iL (by decide)) ⟨6, _, _, ent_6 (by decide), rfl, rfl⟩ (gV wd_846 wd_848 wd_30 wd_75 wd_849) ev_X6_wordFrom ⟨rfl, rfl⟩ ⟨Nat.le_of_ble_eq_true rfl, Nat.le_of_ble_eq_true rfl⟩ hl.1 rfl (Nat.le_of_ble_eq_true rfl) dX6_next_155 (fun H locs hP hD hS => ?_)
  refine lv_istore_n (lv' := [(2, .int r155), (0, .ref (ad 100))]) hx hb dX6_next_158 rfl hl (by decide) rfl (fun ls hl => ?_)
  refine lv_aload_n hx hb dX6_next_159 rfl (lv_at hl 1 rfl) ?_
  refine lv_iload_n hx hb dX6_next_160 rfl (lv_at hl 0 rfl) ?_
  refine lv_iconst (v := 3) hx hb dX6_next_161 (by decide) ?_
  refine lv_icmp_ge (tgt := 169) hx hb dX6_next_162 (by decide) (fun c162 => ?_) (fun c162 => ?_)
  · replace h := it_t c162 h
    refine lv_iload_n hx hb dX6_next_169 rfl (lv_at hl 0 rfl) ?_
    refine lv_bipush (v := 9) hx hb dX6_next_170 (by decide) ?_
    refine lv_icmp_ge (tgt := 179) hx hb dX6_next_172 (by decide) (fun c172 => ?_) (fun c172 => ?_)
    · replace h := it_t c172 h
      refine lv_iload_n hx hb dX6_next_179 rfl (lv_at hl 0 rfl) ?_
      refine lv_bipush (v := 12) hx hb dX6_next_180 (by decide) ?_
      refine lv_icmp_ne (tgt := 189) hx hb dX6_next_182 (by decide) (fun c182 => ?_) (fun c182 => ?_)
      · replace h := it_f c182 h
        refine lv_iconst (v := 4) hx hb dX6_next_189 (by decide) ?_
        refine lv_iload_n hx hb dX6_next_190 rfl (lv_at hl 0 rfl) ?_
        refine lv_iadd hx hb dX6_next_191 ?_
        refine lv_bipush (v := 9) hx hb dX6_next_192 (by decide) ?_
        refine lv_isub hx hb dX6_next_194 ?_
        exact w_X6_next_195 C hP hD hS (lv_sub hl [1, 0] rfl) h
      · replace h := it_t c182 h
        refine lv_iconst (v := -1) hx hb dX6_next_185 (by decide) ?_
        refine lv_goto (tgt := 195) hx hb dX6_next_186 (by decide) ?_
        exact w_X6_next_195 C hP hD hS (lv_sub hl [1, 0] rfl) h
    · replace h := it_f c172 h
      refine lv_iconst (v := 2) hx hb dX6_next_175 (by decide) ?_
      refine lv_goto (tgt := 195) hx hb dX6_next_176 (by decide) ?_
      exact w_X6_next_195 C hP hD hS (lv_sub hl [1, 0] rfl) h
  · replace h := it_f c162 h
    refine lv_iconst (v := 3) hx hb dX6_next_165 (by decide) ?_
    refine lv_goto (tgt := 195) hx hb dX6_next_166 (by decide) ?_
    exact w_X6_next_195 C hP hD hS (lv_sub hl [1, 0] rfl) h
def b_X6_next_143 (N : Nat) (k103 : Mem → Option (Mem)) (M : Mem) : Option (Mem) := k103 M
set_option maxHeartbeats 4000000 in
set_option maxRecDepth 100000 in
theorem w_X6_next_143 (C : CX p s m args meth c cX6_next 3 none RX6 D cy ad zz 100 21 A) {N : Nat} {M : Mem} {k103 : Mem → Option (Mem)} {M' : Mem} (hk103 : ∀ (M : Mem), ∀ (H : Heap) (locs : List Loc), va_P D vwCl (pool cy ad 100 21 M) H → va_D A (pool cy ad 100 21 M) → va_S A s.heap H locs → ∀ (ls : Array Slot), lv_has ls 3 [(0, .ref (ad 100))] → k103 M = some M' → W p l e ({ frames := 1, cells := 0, slots := 0, locals := 25 } : Room) s m args below meth c H locs 0 0 (MQ below (va_Qv (fun (_ : Unit) => True) (fun _ t => PA D cy ad 100 21 A M' t) A) args s 0 0 A) (F0 m 103 ls [])) {H : Heap} {locs : List Loc} (hP : va_P D vwCl (pool cy ad 100 21 M) H) (hD : va_D A (pool cy ad 100 21 M)) (hS : va_S A s.heap H locs) {ls : Array Slot} (hl : lv_has ls 3 [(0, .ref (ad 100))]) (h : b_X6_next_143 N k103 M = some M') : W p l e ({ frames := 1, cells := 0, slots := 0, locals := 25 } : Room) s m args below meth c H locs 0 0 (MQ below (va_Qv (fun (_ : Unit) => True) (fun _ t => PA D cy ad 100 21 A M' t) A) args s 0 0 A) (F0 m 143 ls []) := by
  obtain ⟨hx, hb, hml, hown, hts, hr, hlk, hK, hN, hA, hX⟩ := id C
  unfold b_X6_next_143 at h
  refine lv_goto (tgt := 103) hx hb dX6_next_143 (by decide) ?_
  exact hk103 _ _ _ hP hD hS _ hl h
def b_X6_next_103 (N : Nat) : Nat → Mem → Option (Mem)
  | 0, _ => none
  | fu + 1, M => (if (FI M 100 9) ≤ (FI M 100 22) then b_X6_next_146 N M else gd (inb (FI M 100 22) (len 106)) ((f_X6_in (AI M 106 (FI M 100 22).toNatClampNeg) (97 : Int32) (122 : Int32) M).bind fun r127 => (if r127 = true then b_X6_next_143 N (b_X6_next_103 N fu) (sFI M 100 22 ((FI M 100 22) + (1 : Int32))) else b_X6_next_146 N M)))
set_option maxHeartbeats 4000000 in
set_option maxRecDepth 100000 in
theorem w_X6_next_103 (C : CX p s m args meth c cX6_next 3 none RX6 D cy ad zz 100 21 A) {N : Nat} {M' : Mem}  : ∀ (fu : Nat), ∀ (M : Mem), ∀ (H : Heap) (locs : List Loc), va_P D vwCl (pool cy ad 100 21 M) H → va_D A (pool cy ad 100 21 M) → va_S A s.heap H locs → ∀ (ls : Array Slot), lv_has ls 3 [(0, .ref (ad 100))] → b_X6_next_103 N fu M = some M' → W p l e ({ frames := 1, cells := 0, slots := 0, locals := 25 } : Room) s m args below meth c H locs 0 0 (MQ below (va_Qv (fun (_ : Unit) => True) (fun _ t => PA D cy ad 100 21 A M' t) A) args s 0 0 A) (F0 m 103 ls []) := by
  obtain ⟨hx, hb, hml, hown, hts, hr, hlk, hK, hN, hA, hX⟩ := id C
  intro fu
  induction fu with
  | zero =>
    intro M H locs hP hD hS ls hl h
    exact no_some (show none = some _ from h)
  | succ fu ih =>
    intro M H locs hP hD hS ls hl h
    rw [b_X6_next_103] at h
    refine lv_aload_n hx hb dX6_next_103 rfl (lv_at hl 0 rfl) ?_
    refine gf_6_22 C hP (iL (by decide)) (by decide) wd_904 dX6_next_104 ?_
    refine lv_aload_n hx hb dX6_next_107 rfl (lv_at hl 0 rfl) ?_
    refine gf_6_9 C hP (iL (by decide)) (by decide) wd_891 dX6_next_108 ?_
    refine lv_icmp_ge (tgt := 146) hx hb dX6_next_111 (by decide) (fun c111 => ?_) (fun c111 => ?_)
    · replace h := it_t c111 h
      exact w_X6_next_146 C hP hD hS hl h
    · replace h := it_f c111 h
      refine lv_aload_n hx hb dX6_next_114 rfl (lv_at hl 0 rfl) ?_
      refine gf_6_8 C hP (iL (by decide)) (by decide) wd_890 dX6_next_115 ?_
      refine lv_aload_n hx hb dX6_next_118 rfl (lv_at hl 0 rfl) ?_
      refine gf_6_22 C hP (iL (by decide)) (by decide) wd_904 dX6_next_119 ?_
      obtain ⟨gi1, h⟩ := gd_of h
      refine ia_ld C hP (iL (by decide)) (by decide) gi1 dX6_next_122 ?_
      refine lv_bipush (v := 97) hx hb dX6_next_123 (by decide) ?_
      refine lv_bipush (v := 122) hx hb dX6_next_125 (by decide) ?_
      obtain ⟨r127, g127, h⟩ := bd_of h
      refine call_iS (As := [.int (AI M 106 (FI M 100 22).toNatClampNeg), .int (97 : Int32), .int (122 : Int32)]) (rest := []) C hP hD hS (c_X6_in g127) (gS wd_843 wd_844 wd_75 wd_845) es_X6_in ⟨rfl, rfl⟩ ⟨Nat.le_of_ble_eq_true rfl, Nat.le_of_ble_eq_true rfl⟩ hl.1 rfl (Nat.le_of_ble_eq_true rfl) dX6_next_127 (fun H locs hP hD hS => ?_)
      refine lv_if_eq (tgt := 146) hx hb dX6_next_130 (by decide) (fun c130 => ?_) (fun c130 => ?_)
      · replace h := it_f (b2i_n c130) h
        exact w_X6_next_146 C hP hD hS hl h
      · replace h := it_t (b2i_1 c130) h
        refine lv_aload_n hx hb dX6_next_133 rfl (lv_at hl 0 rfl) ?_
        refine lv_dup hx hb dX6_next_134 rfl ?_
        refine gf_6_22 C hP (iL (by decide)) (by decide) wd_904 dX6_next_135 ?_
        refine lv_iconst (v := 1) hx hb dX6_next_138 (by decide) ?_
        refine lv_iadd hx hb dX6_next_139 ?_
        refine pf_6_22 C hP hD hS (iL (by decide)) (by decide) wd_904 dX6_next_140 (fun H locs hP hD hS => ?_)
        exact w_X6_next_143 C ih hP hD hS hl h
def b_X6_next_70 (N : Nat) (M : Mem) : Option (Mem) := (if (FI M 100 22) = (FI M 100 9) then some M else gd (inb (FI M 100 22) (len 106)) ((f_X6_in (AI M 106 (FI M 100 22).toNatClampNeg) (97 : Int32) (122 : Int32) M).bind fun r97 => (if r97 = true then b_X6_next_103 N N M else (f_X6_in (AI M 106 (FI M 100 22).toNatClampNeg) (48 : Int32) (57 : Int32) M).bind fun r222 => (if r222 = true then b_X6_next_230 N N (0 : Int32) M else (if (AI M 106 (FI M 100 22).toNatClampNeg) = (40 : Int32) then b_X6_next_374 N (AI M 106 (FI M 100 22).toNatClampNeg) M else (if (AI M 106 (FI M 100 22).toNatClampNeg) = (41 : Int32) then b_X6_next_374 N (AI M 106 (FI M 100 22).toNatClampNeg) M else (if (AI M 106 (FI M 100 22).toNatClampNeg) = (59 : Int32) then b_X6_next_374 N (AI M 106 (FI M 100 22).toNatClampNeg) M else (if (AI M 106 (FI M 100 22).toNatClampNeg) = (43 : Int32) then b_X6_next_374 N (AI M 106 (FI M 100 22).toNatClampNeg) M else (if (AI M 106 (FI M 100 22).toNatClampNeg) = (45 : Int32) then b_X6_next_374 N (AI M 106 (FI M 100 22).toNatClampNeg) M else (if (AI M 106 (FI M 100 22).toNatClampNeg) = (42 : Int32) then b_X6_next_374 N (AI M 106 (FI M 100 22).toNatClampNeg) M else (if (AI M 106 (FI M 100 22).toNatClampNeg) = (60 : Int32) then b_X6_next_374 N (AI M 106 (FI M 100 22).toNatClampNeg) M else (if (AI M 106 (FI M 100 22).toNatClampNeg) = (61 : Int32) then b_X6_next_374 N (AI M 106 (FI M 100 22).toNatClampNeg) M else b_X6_next_379 N (AI M 106 (FI M 100 22).toNatClampNeg) (0 : Int32) M))))))))))))
set_option maxHeartbeats 4000000 in
set_option maxRecDepth 100000 in
theorem w_X6_next_70 (C : CX p s m args meth c cX6_next 3 none RX6 D cy ad zz 100 21 A) {N : Nat} {M : Mem} {M' : Mem} {H : Heap} {locs : List Loc} (hP : va_P D vwCl (pool cy ad 100 21 M) H) (hD : va_D A (pool cy ad 100 21 M)) (hS : va_S A s.heap H locs) {ls : Array Slot} (hl : lv_has ls 3 [(0, .ref (ad 100))]) (h : b_X6_next_70 N M = some M') : W p l e ({ frames := 1, cells := 0, slots := 0, locals := 25 } : Room) s m args below meth c H locs 0 0 (MQ below (va_Qv (fun (_ : Unit) => True) (fun _ t => PA D cy ad 100 21 A M' t) A) args s 0 0 A) (F0 m 70 ls []) := by
  obtain ⟨hx, hb, hml, hown, hts, hr, hlk, hK, hN, hA, hX⟩ := id C
  unfold b_X6_next_70 at h
  refine lv_aload_n hx hb dX6_next_70 rfl (lv_at hl 0 rfl) ?_
  refine gf_6_22 C hP (iL (by decide)) (by decide) wd_904 dX6_next_71 ?_
  refine lv_aload_n hx hb dX6_next_74 rfl (lv_at hl 0 rfl) ?_
  refine gf_6_9 C hP (iL (by decide)) (by decide) wd_891 dX6_next_75 ?_
  refine lv_icmp_ne (tgt := 82) hx hb dX6_next_78 (by decide) (fun c78 => ?_) (fun c78 => ?_)
  · replace h := it_f c78 h
    refine lv_aload_n hx hb dX6_next_82 rfl (lv_at hl 0 rfl) ?_
    refine gf_6_8 C hP (iL (by decide)) (by decide) wd_890 dX6_next_83 ?_
    refine lv_aload_n hx hb dX6_next_86 rfl (lv_at hl 0 rfl) ?_
    refine gf_6_22 C hP (iL (by decide)) (by decide) wd_904 dX6_next_87 ?_
    obtain ⟨gi1, h⟩ := gd_of h
    refine ia_ld C hP (iL (by decide)) (by decide) gi1 dX6_next_90 ?_
    refine lv_istore_n (lv' := [(1, .int (AI M 106 (FI M 100 22).toNatClampNeg)), (0, .ref (ad 100))]) hx hb dX6_next_91 rfl hl (by decide) rfl (fun ls hl => ?_)
    refine lv_iload_n hx hb dX6_next_92 rfl (lv_at hl 0 rfl) ?_
    refine lv_bipush (v := 97) hx hb dX6_next_93 (by decide) ?_
    refine lv_bipush (v := 122) hx hb dX6_next_95 (by decide) ?_
    obtain ⟨r97, g97, h⟩ := bd_of h
    refine call_iS (As := [.int (AI M 106 (FI M 100 22).toNatClampNeg), .int (97 : Int32), .int (122 : Int32)]) (rest := []) C hP hD hS (c_X6_in g97) (gS wd_843 wd_844 wd_75 wd_845) es_X6_in ⟨rfl, rfl⟩ ⟨Nat.le_of_ble_eq_true rfl, Nat.le_of_ble_eq_true rfl⟩ hl.1 rfl (Nat.le_of_ble_eq_true rfl) dX6_next_97 (fun H locs hP hD hS => ?_)
    refine lv_if_eq (tgt := 217) hx hb dX6_next_100 (by decide) (fun c100 => ?_) (fun c100 => ?_)
    · replace h := it_f (b2i_n c100) h
      refine lv_iload_n hx hb dX6_next_217 rfl (lv_at hl 0 rfl) ?_
      refine lv_bipush (v := 48) hx hb dX6_next_218 (by decide) ?_
      refine lv_bipush (v := 57) hx hb dX6_next_220 (by decide) ?_
      obtain ⟨r222, g222, h⟩ := bd_of h
      refine call_iS (As := [.int (AI M 106 (FI M 100 22).toNatClampNeg), .int (48 : Int32), .int (57 : Int32)]) (rest := []) C hP hD hS (c_X6_in g222) (gS wd_843 wd_844 wd_75 wd_845) es_X6_in ⟨rfl, rfl⟩ ⟨Nat.le_of_ble_eq_true rfl, Nat.le_of_ble_eq_true rfl⟩ hl.1 rfl (Nat.le_of_ble_eq_true rfl) dX6_next_222 (fun H locs hP hD hS => ?_)
      refine lv_if_eq (tgt := 326) hx hb dX6_next_225 (by decide) (fun c225 => ?_) (fun c225 => ?_)
      · replace h := it_f (b2i_n c225) h
        refine lv_iload_n hx hb dX6_next_326 rfl (lv_at hl 0 rfl) ?_
        refine lv_bipush (v := 40) hx hb dX6_next_327 (by decide) ?_
        refine lv_icmp_eq (tgt := 374) hx hb dX6_next_329 (by decide) (fun c329 => ?_) (fun c329 => ?_)
        · replace h := it_t c329 h
          exact w_X6_next_374 C hP hD hS (lv_sub hl [1, 0] rfl) h
        · replace h := it_f c329 h
          refine lv_iload_n hx hb dX6_next_332 rfl (lv_at hl 0 rfl) ?_
          refine lv_bipush (v := 41) hx hb dX6_next_333 (by decide) ?_
          refine lv_icmp_eq (tgt := 374) hx hb dX6_next_335 (by decide) (fun c335 => ?_) (fun c335 => ?_)
          · replace h := it_t c335 h
            exact w_X6_next_374 C hP hD hS (lv_sub hl [1, 0] rfl) h
          · replace h := it_f c335 h
            refine lv_iload_n hx hb dX6_next_338 rfl (lv_at hl 0 rfl) ?_
            refine lv_bipush (v := 59) hx hb dX6_next_339 (by decide) ?_
            refine lv_icmp_eq (tgt := 374) hx hb dX6_next_341 (by decide) (fun c341 => ?_) (fun c341 => ?_)
            · replace h := it_t c341 h
              exact w_X6_next_374 C hP hD hS (lv_sub hl [1, 0] rfl) h
            · replace h := it_f c341 h
              refine lv_iload_n hx hb dX6_next_344 rfl (lv_at hl 0 rfl) ?_
              refine lv_bipush (v := 43) hx hb dX6_next_345 (by decide) ?_
              refine lv_icmp_eq (tgt := 374) hx hb dX6_next_347 (by decide) (fun c347 => ?_) (fun c347 => ?_)
              · replace h := it_t c347 h
                exact w_X6_next_374 C hP hD hS (lv_sub hl [1, 0] rfl) h
              · replace h := it_f c347 h
                refine lv_iload_n hx hb dX6_next_350 rfl (lv_at hl 0 rfl) ?_
                refine lv_bipush (v := 45) hx hb dX6_next_351 (by decide) ?_
                refine lv_icmp_eq (tgt := 374) hx hb dX6_next_353 (by decide) (fun c353 => ?_) (fun c353 => ?_)
                · replace h := it_t c353 h
                  exact w_X6_next_374 C hP hD hS (lv_sub hl [1, 0] rfl) h
                · replace h := it_f c353 h
                  refine lv_iload_n hx hb dX6_next_356 rfl (lv_at hl 0 rfl) ?_
                  refine lv_bipush (v := 42) hx hb dX6_next_357 (by decide) ?_
                  refine lv_icmp_eq (tgt := 374) hx hb dX6_next_359 (by decide) (fun c359 => ?_) (fun c359 => ?_)
                  · replace h := it_t c359 h
                    exact w_X6_next_374 C hP hD hS (lv_sub hl [1, 0] rfl) h
                  · replace h := it_f c359 h
                    refine lv_iload_n hx hb dX6_next_362 rfl (lv_at hl 0 rfl) ?_
                    refine lv_bipush (v := 60) hx hb dX6_next_363 (by decide) ?_
                    refine lv_icmp_eq (tgt := 374) hx hb dX6_next_365 (by decide) (fun c365 => ?_) (fun c365 => ?_)
                    · replace h := it_t c365 h
                      exact w_X6_next_374 C hP hD hS (lv_sub hl [1, 0] rfl) h
                    · replace h := it_f c365 h
                      refine lv_iload_n hx hb dX6_next_368 rfl (lv_at hl 0 rfl) ?_
                      refine lv_bipush (v := 61) hx hb dX6_next_369 (by decide) ?_
                      refine lv_icmp_ne (tgt := 378) hx hb dX6_next_371 (by decide) (fun c371 => ?_) (fun c371 => ?_)
                      · replace h := it_f c371 h
                        refine lv_iconst (v := 0) hx hb dX6_next_378 (by decide) ?_
                        exact w_X6_next_379 C hP hD hS (lv_sub hl [1, 0] rfl) h
                      · replace h := it_t c371 h
                        exact w_X6_next_374 C hP hD hS (lv_sub hl [1, 0] rfl) h
      · replace h := it_t (b2i_1 c225) h
        refine lv_iconst (v := 0) hx hb dX6_next_228 (by decide) ?_
        refine lv_istore_n (lv' := [(2, .int (0 : Int32)), (1, .int (AI M 106 (FI M 100 22).toNatClampNeg)), (0, .ref (ad 100))]) hx hb dX6_next_229 rfl hl (by decide) rfl (fun ls hl => ?_)
        exact w_X6_next_230 C N _ _ _ _ hP hD hS _ (lv_sub hl [2, 0] rfl) h
    · replace h := it_t (b2i_1 c100) h
      exact w_X6_next_103 C N _ _ _ hP hD hS _ (lv_sub hl [1] rfl) h
  · replace h := it_t c78 h
    exact rt_v C hP hD hS dX6_next_81 (Option.some.inj h)
def b_X6_next_65 (N : Nat) (M : Mem) : Option (Mem) := b_X6_next_70 N (sFI M 100 25 (0 : Int32))
set_option maxHeartbeats 4000000 in
set_option maxRecDepth 100000 in
theorem w_X6_next_65 (C : CX p s m args meth c cX6_next 3 none RX6 D cy ad zz 100 21 A) {N : Nat} {M : Mem} {M' : Mem} {H : Heap} {locs : List Loc} (hP : va_P D vwCl (pool cy ad 100 21 M) H) (hD : va_D A (pool cy ad 100 21 M)) (hS : va_S A s.heap H locs) {ls : Array Slot} (hl : lv_has ls 3 [(0, .ref (ad 100))]) (h : b_X6_next_65 N M = some M') : W p l e ({ frames := 1, cells := 0, slots := 0, locals := 25 } : Room) s m args below meth c H locs 0 0 (MQ below (va_Qv (fun (_ : Unit) => True) (fun _ t => PA D cy ad 100 21 A M' t) A) args s 0 0 A) (F0 m 65 ls []) := by
  obtain ⟨hx, hb, hml, hown, hts, hr, hlk, hK, hN, hA, hX⟩ := id C
  unfold b_X6_next_65 at h
  refine lv_aload_n hx hb dX6_next_65 rfl (lv_at hl 0 rfl) ?_
  refine lv_iconst (v := 0) hx hb dX6_next_66 (by decide) ?_
  refine pf_6_25 C hP hD hS (iL (by decide)) (by decide) wd_907 dX6_next_67 (fun H locs hP hD hS => ?_)
  exact w_X6_next_70 C hP hD hS hl h
def b_X6_next_60 (N : Nat) (M : Mem) : Option (Mem) := b_X6_next_65 N (sFI M 100 24 (0 : Int32))
set_option maxHeartbeats 4000000 in
set_option maxRecDepth 100000 in
theorem w_X6_next_60 (C : CX p s m args meth c cX6_next 3 none RX6 D cy ad zz 100 21 A) {N : Nat} {M : Mem} {M' : Mem} {H : Heap} {locs : List Loc} (hP : va_P D vwCl (pool cy ad 100 21 M) H) (hD : va_D A (pool cy ad 100 21 M)) (hS : va_S A s.heap H locs) {ls : Array Slot} (hl : lv_has ls 3 [(0, .ref (ad 100))]) (h : b_X6_next_60 N M = some M') : W p l e ({ frames := 1, cells := 0, slots := 0, locals := 25 } : Room) s m args below meth c H locs 0 0 (MQ below (va_Qv (fun (_ : Unit) => True) (fun _ t => PA D cy ad 100 21 A M' t) A) args s 0 0 A) (F0 m 60 ls []) := by
  obtain ⟨hx, hb, hml, hown, hts, hr, hlk, hK, hN, hA, hX⟩ := id C
  unfold b_X6_next_60 at h
  refine lv_aload_n hx hb dX6_next_60 rfl (lv_at hl 0 rfl) ?_
  refine lv_iconst (v := 0) hx hb dX6_next_61 (by decide) ?_
  refine pf_6_24 C hP hD hS (iL (by decide)) (by decide) wd_906 dX6_next_62 (fun H locs hP hD hS => ?_)
  exact w_X6_next_65 C hP hD hS hl h
def b_X6_next_52 (N : Nat) (M : Mem) : Option (Mem) := b_X6_next_60 N (sFI M 100 23 (FI M 100 22))
set_option maxHeartbeats 4000000 in
set_option maxRecDepth 100000 in
theorem w_X6_next_52 (C : CX p s m args meth c cX6_next 3 none RX6 D cy ad zz 100 21 A) {N : Nat} {M : Mem} {M' : Mem} {H : Heap} {locs : List Loc} (hP : va_P D vwCl (pool cy ad 100 21 M) H) (hD : va_D A (pool cy ad 100 21 M)) (hS : va_S A s.heap H locs) {ls : Array Slot} (hl : lv_has ls 3 [(0, .ref (ad 100))]) (h : b_X6_next_52 N M = some M') : W p l e ({ frames := 1, cells := 0, slots := 0, locals := 25 } : Room) s m args below meth c H locs 0 0 (MQ below (va_Qv (fun (_ : Unit) => True) (fun _ t => PA D cy ad 100 21 A M' t) A) args s 0 0 A) (F0 m 52 ls []) := by
  obtain ⟨hx, hb, hml, hown, hts, hr, hlk, hK, hN, hA, hX⟩ := id C
  unfold b_X6_next_52 at h
  refine lv_aload_n hx hb dX6_next_52 rfl (lv_at hl 0 rfl) ?_
  refine lv_aload_n hx hb dX6_next_53 rfl (lv_at hl 0 rfl) ?_
  refine gf_6_22 C hP (iL (by decide)) (by decide) wd_904 dX6_next_54 ?_
  refine pf_6_23 C hP hD hS (iL (by decide)) (by decide) wd_905 dX6_next_57 (fun H locs hP hD hS => ?_)
  exact w_X6_next_60 C hP hD hS hl h
def b_X6_next_49 (N : Nat) (k0 : Mem → Option (Mem)) (M : Mem) : Option (Mem) := k0 M
set_option maxHeartbeats 4000000 in
set_option maxRecDepth 100000 in
theorem w_X6_next_49 (C : CX p s m args meth c cX6_next 3 none RX6 D cy ad zz 100 21 A) {N : Nat} {M : Mem} {k0 : Mem → Option (Mem)} {M' : Mem} (hk0 : ∀ (M : Mem), ∀ (H : Heap) (locs : List Loc), va_P D vwCl (pool cy ad 100 21 M) H → va_D A (pool cy ad 100 21 M) → va_S A s.heap H locs → ∀ (ls : Array Slot), lv_has ls 3 [(0, .ref (ad 100))] → k0 M = some M' → W p l e ({ frames := 1, cells := 0, slots := 0, locals := 25 } : Room) s m args below meth c H locs 0 0 (MQ below (va_Qv (fun (_ : Unit) => True) (fun _ t => PA D cy ad 100 21 A M' t) A) args s 0 0 A) (F0 m 0 ls [])) {H : Heap} {locs : List Loc} (hP : va_P D vwCl (pool cy ad 100 21 M) H) (hD : va_D A (pool cy ad 100 21 M)) (hS : va_S A s.heap H locs) {ls : Array Slot} (hl : lv_has ls 3 [(0, .ref (ad 100))]) (h : b_X6_next_49 N k0 M = some M') : W p l e ({ frames := 1, cells := 0, slots := 0, locals := 25 } : Room) s m args below meth c H locs 0 0 (MQ below (va_Qv (fun (_ : Unit) => True) (fun _ t => PA D cy ad 100 21 A M' t) A) args s 0 0 A) (F0 m 49 ls []) := by
  obtain ⟨hx, hb, hml, hown, hts, hr, hlk, hK, hN, hA, hX⟩ := id C
  unfold b_X6_next_49 at h
  refine lv_goto (tgt := 0) hx hb dX6_next_49 (by decide) ?_
  exact hk0 _ _ _ hP hD hS _ hl h
def b_X6_next_39 (N : Nat) (k0 : Mem → Option (Mem)) (M : Mem) : Option (Mem) := b_X6_next_49 N k0 (sFI M 100 22 ((FI M 100 22) + (1 : Int32)))
set_option maxHeartbeats 4000000 in
set_option maxRecDepth 100000 in
theorem w_X6_next_39 (C : CX p s m args meth c cX6_next 3 none RX6 D cy ad zz 100 21 A) {N : Nat} {M : Mem} {k0 : Mem → Option (Mem)} {M' : Mem} (hk0 : ∀ (M : Mem), ∀ (H : Heap) (locs : List Loc), va_P D vwCl (pool cy ad 100 21 M) H → va_D A (pool cy ad 100 21 M) → va_S A s.heap H locs → ∀ (ls : Array Slot), lv_has ls 3 [(0, .ref (ad 100))] → k0 M = some M' → W p l e ({ frames := 1, cells := 0, slots := 0, locals := 25 } : Room) s m args below meth c H locs 0 0 (MQ below (va_Qv (fun (_ : Unit) => True) (fun _ t => PA D cy ad 100 21 A M' t) A) args s 0 0 A) (F0 m 0 ls [])) {H : Heap} {locs : List Loc} (hP : va_P D vwCl (pool cy ad 100 21 M) H) (hD : va_D A (pool cy ad 100 21 M)) (hS : va_S A s.heap H locs) {ls : Array Slot} (hl : lv_has ls 3 [(0, .ref (ad 100))]) (h : b_X6_next_39 N k0 M = some M') : W p l e ({ frames := 1, cells := 0, slots := 0, locals := 25 } : Room) s m args below meth c H locs 0 0 (MQ below (va_Qv (fun (_ : Unit) => True) (fun _ t => PA D cy ad 100 21 A M' t) A) args s 0 0 A) (F0 m 39 ls []) := by
  obtain ⟨hx, hb, hml, hown, hts, hr, hlk, hK, hN, hA, hX⟩ := id C
  unfold b_X6_next_39 at h
  refine lv_aload_n hx hb dX6_next_39 rfl (lv_at hl 0 rfl) ?_
  refine lv_dup hx hb dX6_next_40 rfl ?_
  refine gf_6_22 C hP (iL (by decide)) (by decide) wd_904 dX6_next_41 ?_
  refine lv_iconst (v := 1) hx hb dX6_next_44 (by decide) ?_
  refine lv_iadd hx hb dX6_next_45 ?_
  refine pf_6_22 C hP hD hS (iL (by decide)) (by decide) wd_904 dX6_next_46 (fun H locs hP hD hS => ?_)
  exact w_X6_next_49 C hk0 hP hD hS hl h
def b_X6_next_0 (N : Nat) : Nat → Mem → Option (Mem)
  | 0, _ => none
  | fu + 1, M => (if (FI M 100 9) ≤ (FI M 100 22) then b_X6_next_52 N M else gd (inb (FI M 100 22) (len 106)) ((if (AI M 106 (FI M 100 22).toNatClampNeg) = (32 : Int32) then b_X6_next_39 N (b_X6_next_0 N fu) M else gd (inb (FI M 100 22) (len 106)) ((if (AI M 106 (FI M 100 22).toNatClampNeg) = (10 : Int32) then b_X6_next_39 N (b_X6_next_0 N fu) M else b_X6_next_52 N M)))))
set_option maxHeartbeats 4000000 in
set_option maxRecDepth 100000 in
theorem w_X6_next_0 (C : CX p s m args meth c cX6_next 3 none RX6 D cy ad zz 100 21 A) {N : Nat} {M' : Mem}  : ∀ (fu : Nat), ∀ (M : Mem), ∀ (H : Heap) (locs : List Loc), va_P D vwCl (pool cy ad 100 21 M) H → va_D A (pool cy ad 100 21 M) → va_S A s.heap H locs → ∀ (ls : Array Slot), lv_has ls 3 [(0, .ref (ad 100))] → b_X6_next_0 N fu M = some M' → W p l e ({ frames := 1, cells := 0, slots := 0, locals := 25 } : Room) s m args below meth c H locs 0 0 (MQ below (va_Qv (fun (_ : Unit) => True) (fun _ t => PA D cy ad 100 21 A M' t) A) args s 0 0 A) (F0 m 0 ls []) := by
  obtain ⟨hx, hb, hml, hown, hts, hr, hlk, hK, hN, hA, hX⟩ := id C
  intro fu
  induction fu with
  | zero =>
    intro M H locs hP hD hS ls hl h
    exact no_some (show none = some _ from h)
  | succ fu ih =>
    intro M H locs hP hD hS ls hl h
    rw [b_X6_next_0] at h
    refine lv_aload_n hx hb dX6_next_0 rfl (lv_at hl 0 rfl) ?_
    refine gf_6_22 C hP (iL (by decide)) (by decide) wd_904 dX6_next_1 ?_
    refine lv_aload_n hx hb dX6_next_4 rfl (lv_at hl 0 rfl) ?_
    refine gf_6_9 C hP (iL (by decide)) (by decide) wd_891 dX6_next_5 ?_
    refine lv_icmp_ge (tgt := 52) hx hb dX6_next_8 (by decide) (fun c8 => ?_) (fun c8 => ?_)
    · replace h := it_t c8 h
      exact w_X6_next_52 C hP hD hS hl h
    · replace h := it_f c8 h
      refine lv_aload_n hx hb dX6_next_11 rfl (lv_at hl 0 rfl) ?_
      refine gf_6_8 C hP (iL (by decide)) (by decide) wd_890 dX6_next_12 ?_
      refine lv_aload_n hx hb dX6_next_15 rfl (lv_at hl 0 rfl) ?_
      refine gf_6_22 C hP (iL (by decide)) (by decide) wd_904 dX6_next_16 ?_
      obtain ⟨gi1, h⟩ := gd_of h
      refine ia_ld C hP (iL (by decide)) (by decide) gi1 dX6_next_19 ?_
      refine lv_bipush (v := 32) hx hb dX6_next_20 (by decide) ?_
      refine lv_icmp_eq (tgt := 39) hx hb dX6_next_22 (by decide) (fun c22 => ?_) (fun c22 => ?_)
      · replace h := it_t c22 h
        exact w_X6_next_39 C ih hP hD hS hl h
      · replace h := it_f c22 h
        refine lv_aload_n hx hb dX6_next_25 rfl (lv_at hl 0 rfl) ?_
        refine gf_6_8 C hP (iL (by decide)) (by decide) wd_890 dX6_next_26 ?_
        refine lv_aload_n hx hb dX6_next_29 rfl (lv_at hl 0 rfl) ?_
        refine gf_6_22 C hP (iL (by decide)) (by decide) wd_904 dX6_next_30 ?_
        obtain ⟨gi2, h⟩ := gd_of h
        refine ia_ld C hP (iL (by decide)) (by decide) gi2 dX6_next_33 ?_
        refine lv_bipush (v := 10) hx hb dX6_next_34 (by decide) ?_
        refine lv_icmp_ne (tgt := 52) hx hb dX6_next_36 (by decide) (fun c36 => ?_) (fun c36 => ?_)
        · replace h := it_f c36 h
          exact w_X6_next_52 C hP hD hS hl h
        · replace h := it_t c36 h
          exact w_X6_next_39 C ih hP hD hS hl h
def f_X6_next (N : Nat) (M : Mem) : Option (Mem) := b_X6_next_0 N N M
theorem c_X6_next {l : Launch} {D : va_G} {cy : Nat → ClassId} {ad : Nat → Nat} {zz : (Nat → Nat) × (Nat → Nat)} {N : Nat} {M : Mem} {M' : Mem} (h : f_X6_next N M = some M') : CTv l D cy ad zz 100 21 yX6_next (.code yX6_next cX6_next 3 none :: tb) ({ frames := 1, cells := 0, slots := 0, locals := 25 } : Room) [.ref (ad 100)] M M' := by
  intro sz
  refine CX.of (by decide +kernel) (fun p e s m args below meth c H ls C hP hD hS hl => ?_) (Nat.le_of_ble_eq_true rfl)
  exact w_X6_next_0 C N _ _ _ hP hD hS _ hl h
theorem ev_X6_next : yX6_next.cls = RX6 ∧ yX6_next.cls ≠ "java/lang/invoke/MethodHandle" ∧ yX6_next.cls ≠ "java/lang/invoke/VarHandle" ∧ (parseMethodDescriptor yX6_next.desc).map (fun d => d.parameters.length) = some 0 := by decide +kernel
def b_X6_rank_0 (M : Mem) (x0 : Int32) : Option (Int32) := (if x0 = 0 then some (0 : Int32) else (if x0 = (11 : Int32) then some (1 : Int32) else (if x0 = (12 : Int32) then some (2 : Int32) else (if x0 = (13 : Int32) then some (3 : Int32) else (if (15 : Int32) < x0 then (if (17 : Int32) < x0 then (if x0 = (18 : Int32) then some (6 : Int32) else some (7 : Int32)) else some (5 : Int32)) else some (4 : Int32))))))
set_option maxHeartbeats 4000000 in
set_option maxRecDepth 100000 in
theorem w_X6_rank_0 (C : CX p s m args meth c cX6_rank 1 (some .int) RX6 D cy ad zz 100 21 A) {M : Mem} {x0 : Int32} {rr : Int32} {H : Heap} {locs : List Loc} (hP : va_P D vwCl (pool cy ad 100 21 M) H) (hD : va_D A (pool cy ad 100 21 M)) (hS : va_S A s.heap H locs) {ls : Array Slot} (hl : lv_has ls 1 [(0, .int x0)]) (h : b_X6_rank_0 M x0 = some rr) : W p l e ({ frames := 0, cells := 0, slots := 0, locals := 0 } : Room) s m args below meth c H locs 0 0 (MQ below (va_Qi (fun (x : Int32) (_ : Unit) => x = rr) (fun _ t => PA D cy ad 100 21 A M t) A) args s 0 0 A) (F0 m 0 ls []) := by
  obtain ⟨hx, hb, hml, hown, hts, hr, hlk, hK, hN, hA, hX⟩ := id C
  unfold b_X6_rank_0 at h
  refine lv_iload_n hx hb dX6_rank_0 rfl (lv_at hl 0 rfl) ?_
  refine lv_if_ne (tgt := 8) hx hb dX6_rank_1 (by decide) (fun c1 => ?_) (fun c1 => ?_)
  · replace h := it_f c1 h
    refine lv_iload_n hx hb dX6_rank_8 rfl (lv_at hl 0 rfl) ?_
    refine lv_bipush (v := 11) hx hb dX6_rank_9 (by decide) ?_
    refine lv_icmp_ne (tgt := 18) hx hb dX6_rank_11 (by decide) (fun c11 => ?_) (fun c11 => ?_)
    · replace h := it_f c11 h
      refine lv_iload_n hx hb dX6_rank_18 rfl (lv_at hl 0 rfl) ?_
      refine lv_bipush (v := 12) hx hb dX6_rank_19 (by decide) ?_
      refine lv_icmp_ne (tgt := 28) hx hb dX6_rank_21 (by decide) (fun c21 => ?_) (fun c21 => ?_)
      · replace h := it_f c21 h
        refine lv_iload_n hx hb dX6_rank_28 rfl (lv_at hl 0 rfl) ?_
        refine lv_bipush (v := 13) hx hb dX6_rank_29 (by decide) ?_
        refine lv_icmp_ne (tgt := 38) hx hb dX6_rank_31 (by decide) (fun c31 => ?_) (fun c31 => ?_)
        · replace h := it_f c31 h
          refine lv_iload_n hx hb dX6_rank_38 rfl (lv_at hl 0 rfl) ?_
          refine lv_bipush (v := 15) hx hb dX6_rank_39 (by decide) ?_
          refine lv_icmp_gt (tgt := 48) hx hb dX6_rank_41 (by decide) (fun c41 => ?_) (fun c41 => ?_)
          · replace h := it_t c41 h
            refine lv_iload_n hx hb dX6_rank_48 rfl (lv_at hl 0 rfl) ?_
            refine lv_bipush (v := 17) hx hb dX6_rank_49 (by decide) ?_
            refine lv_icmp_gt (tgt := 58) hx hb dX6_rank_51 (by decide) (fun c51 => ?_) (fun c51 => ?_)
            · replace h := it_t c51 h
              refine lv_iload_n hx hb dX6_rank_58 rfl (lv_at hl 0 rfl) ?_
              refine lv_bipush (v := 18) hx hb dX6_rank_59 (by decide) ?_
              refine lv_icmp_ne (tgt := 69) hx hb dX6_rank_61 (by decide) (fun c61 => ?_) (fun c61 => ?_)
              · replace h := it_f c61 h
                refine lv_bipush (v := 7) hx hb dX6_rank_69 (by decide) ?_
                exact rt_i (r := (7 : Int32)) C hP hD hS dX6_rank_71 ⟨Option.some.inj h, rfl⟩
              · replace h := it_t c61 h
                refine lv_bipush (v := 6) hx hb dX6_rank_64 (by decide) ?_
                refine lv_goto (tgt := 71) hx hb dX6_rank_66 (by decide) ?_
                exact rt_i (r := (6 : Int32)) C hP hD hS dX6_rank_71 ⟨Option.some.inj h, rfl⟩
            · replace h := it_f c51 h
              refine lv_iconst (v := 5) hx hb dX6_rank_54 (by decide) ?_
              refine lv_goto (tgt := 71) hx hb dX6_rank_55 (by decide) ?_
              exact rt_i (r := (5 : Int32)) C hP hD hS dX6_rank_71 ⟨Option.some.inj h, rfl⟩
          · replace h := it_f c41 h
            refine lv_iconst (v := 4) hx hb dX6_rank_44 (by decide) ?_
            refine lv_goto (tgt := 71) hx hb dX6_rank_45 (by decide) ?_
            exact rt_i (r := (4 : Int32)) C hP hD hS dX6_rank_71 ⟨Option.some.inj h, rfl⟩
        · replace h := it_t c31 h
          refine lv_iconst (v := 3) hx hb dX6_rank_34 (by decide) ?_
          refine lv_goto (tgt := 71) hx hb dX6_rank_35 (by decide) ?_
          exact rt_i (r := (3 : Int32)) C hP hD hS dX6_rank_71 ⟨Option.some.inj h, rfl⟩
      · replace h := it_t c21 h
        refine lv_iconst (v := 2) hx hb dX6_rank_24 (by decide) ?_
        refine lv_goto (tgt := 71) hx hb dX6_rank_25 (by decide) ?_
        exact rt_i (r := (2 : Int32)) C hP hD hS dX6_rank_71 ⟨Option.some.inj h, rfl⟩
    · replace h := it_t c11 h
      refine lv_iconst (v := 1) hx hb dX6_rank_14 (by decide) ?_
      refine lv_goto (tgt := 71) hx hb dX6_rank_15 (by decide) ?_
      exact rt_i (r := (1 : Int32)) C hP hD hS dX6_rank_71 ⟨Option.some.inj h, rfl⟩
  · replace h := it_t c1 h
    refine lv_iconst (v := 0) hx hb dX6_rank_4 (by decide) ?_
    refine lv_goto (tgt := 71) hx hb dX6_rank_5 (by decide) ?_
    exact rt_i (r := (0 : Int32)) C hP hD hS dX6_rank_71 ⟨Option.some.inj h, rfl⟩
def f_X6_rank (x0 : Int32) (M : Mem) : Option (Int32) := b_X6_rank_0 M x0
theorem c_X6_rank {l : Launch} {D : va_G} {cy : Nat → ClassId} {ad : Nat → Nat} {zz : (Nat → Nat) × (Nat → Nat)} {x0 : Int32} {M : Mem} {rr : Int32} (h : f_X6_rank x0 M = some rr) : CTi l D cy ad zz 100 21 yX6_rank (.code yX6_rank cX6_rank 1 (some .int) :: tb) ({ frames := 0, cells := 0, slots := 0, locals := 0 } : Room) [.int x0] M rr M := by
  intro sz
  refine CX.of (by decide +kernel) (fun p e s m args below meth c H ls C hP hD hS hl => ?_) (Nat.le_of_ble_eq_true rfl)
  exact w_X6_rank_0 C hP hD hS hl h
theorem es_X6_rank : yX6_rank.cls ≠ "java/lang/invoke/MethodHandle" ∧ yX6_rank.cls ≠ "java/lang/invoke/VarHandle" ∧ (parseMethodDescriptor yX6_rank.desc).map (fun d => d.parameters.length) = some 1 := by decide +kernel
def b_X6_puts_19 (x1 : Int32) (M : Mem) : Option (Mem) := some (sFI M 100 30 ((FI M 100 30) + (1 : Int32)))
set_option maxHeartbeats 4000000 in
set_option maxRecDepth 100000 in
theorem w_X6_puts_19 (C : CX p s m args meth c cX6_puts 2 none RX6 D cy ad zz 100 21 A) {M : Mem} {x1 : Int32} {M' : Mem} {H : Heap} {locs : List Loc} (hP : va_P D vwCl (pool cy ad 100 21 M) H) (hD : va_D A (pool cy ad 100 21 M)) (hS : va_S A s.heap H locs) {ls : Array Slot} (hl : lv_has ls 2 [(0, .ref (ad 100))]) (h : b_X6_puts_19 x1 M = some M') : W p l e ({ frames := 0, cells := 0, slots := 0, locals := 0 } : Room) s m args below meth c H locs 0 0 (MQ below (va_Qv (fun (_ : Unit) => True) (fun _ t => PA D cy ad 100 21 A M' t) A) args s 0 0 A) (F0 m 19 ls []) := by
  obtain ⟨hx, hb, hml, hown, hts, hr, hlk, hK, hN, hA, hX⟩ := id C
  unfold b_X6_puts_19 at h
  refine lv_aload_n hx hb dX6_puts_19 rfl (lv_at hl 0 rfl) ?_
  refine lv_dup hx hb dX6_puts_20 rfl ?_
  refine gf_6_30 C hP (iL (by decide)) (by decide) wd_912 dX6_puts_21 ?_
  refine lv_iconst (v := 1) hx hb dX6_puts_24 (by decide) ?_
  refine lv_iadd hx hb dX6_puts_25 ?_
  refine pf_6_30 C hP hD hS (iL (by decide)) (by decide) wd_912 dX6_puts_26 (fun H locs hP hD hS => ?_)
  exact rt_v C hP hD hS dX6_puts_29 (Option.some.inj h)
def b_X6_puts_0 (x1 : Int32) (M : Mem) : Option (Mem) := gd (inb (((200 : Int32) * (FI M 100 12)) + (FI M 100 30)) (len 107)) (b_X6_puts_19 x1 (sAI M 107 (((200 : Int32) * (FI M 100 12)) + (FI M 100 30)).toNatClampNeg x1))
set_option maxHeartbeats 4000000 in
set_option maxRecDepth 100000 in
theorem w_X6_puts_0 (C : CX p s m args meth c cX6_puts 2 none RX6 D cy ad zz 100 21 A) {M : Mem} {x1 : Int32} {M' : Mem} {H : Heap} {locs : List Loc} (hP : va_P D vwCl (pool cy ad 100 21 M) H) (hD : va_D A (pool cy ad 100 21 M)) (hS : va_S A s.heap H locs) {ls : Array Slot} (hl : lv_has ls 2 [(0, .ref (ad 100)), (1, .int x1)]) (h : b_X6_puts_0 x1 M = some M') : W p l e ({ frames := 0, cells := 0, slots := 0, locals := 0 } : Room) s m args below meth c H locs 0 0 (MQ below (va_Qv (fun (_ : Unit) => True) (fun _ t => PA D cy ad 100 21 A M' t) A) args s 0 0 A) (F0 m 0 ls []) := by
  obtain ⟨hx, hb, hml, hown, hts, hr, hlk, hK, hN, hA, hX⟩ := id C
  unfold b_X6_puts_0 at h
  refine lv_aload_n hx hb dX6_puts_0 rfl (lv_at hl 0 rfl) ?_
  refine gf_6_10 C hP (iL (by decide)) (by decide) wd_892 dX6_puts_1 ?_
  refine lv_sipush (v := 200) hx hb dX6_puts_4 (by decide) ?_
  refine lv_aload_n hx hb dX6_puts_7 rfl (lv_at hl 0 rfl) ?_
  refine gf_6_12 C hP (iL (by decide)) (by decide) wd_894 dX6_puts_8 ?_
  refine lv_imul hx hb dX6_puts_11 ?_
  refine lv_aload_n hx hb dX6_puts_12 rfl (lv_at hl 0 rfl) ?_
  refine gf_6_30 C hP (iL (by decide)) (by decide) wd_912 dX6_puts_13 ?_
  refine lv_iadd hx hb dX6_puts_16 ?_
  refine lv_iload_n hx hb dX6_puts_17 rfl (lv_at hl 1 rfl) ?_
  obtain ⟨gi1, h⟩ := gd_of h
  refine ia_st C hP hD hS (iL (by decide)) (by decide) gi1 dX6_puts_18 (fun H locs hP hD hS => ?_)
  exact w_X6_puts_19 C hP hD hS (lv_sub hl [0] rfl) h
def f_X6_puts (x1 : Int32) (M : Mem) : Option (Mem) := b_X6_puts_0 x1 M
theorem c_X6_puts {l : Launch} {D : va_G} {cy : Nat → ClassId} {ad : Nat → Nat} {zz : (Nat → Nat) × (Nat → Nat)} {x1 : Int32} {M : Mem} {M' : Mem} (h : f_X6_puts x1 M = some M') : CTv l D cy ad zz 100 21 yX6_puts (.code yX6_puts cX6_puts 2 none :: tb) ({ frames := 0, cells := 0, slots := 0, locals := 0 } : Room) [.ref (ad 100), .int x1] M M' := by
  intro sz
  refine CX.of (by decide +kernel) (fun p e s m args below meth c H ls C hP hD hS hl => ?_) (Nat.le_of_ble_eq_true rfl)
  exact w_X6_puts_0 C hP hD hS hl h
theorem ev_X6_puts : yX6_puts.cls = RX6 ∧ yX6_puts.cls ≠ "java/lang/invoke/MethodHandle" ∧ yX6_puts.cls ≠ "java/lang/invoke/VarHandle" ∧ (parseMethodDescriptor yX6_puts.desc).map (fun d => d.parameters.length) = some 1 := by decide +kernel
def b_X6_unwinds_71 (N : Nat) (x1 : Int32) (k0 : Mem → Option (Mem)) (x2 : Int32) (M : Mem) : Option (Mem) := (f_X6_puts x2 M).bind fun M73 => k0 M73
set_option maxHeartbeats 4000000 in
set_option maxRecDepth 100000 in
theorem w_X6_unwinds_71 (C : CX p s m args meth c cX6_unwinds 3 none RX6 D cy ad zz 100 21 A) {N : Nat} {M : Mem} {x1 : Int32} {k0 : Mem → Option (Mem)} {M' : Mem} (hk0 : ∀ (M : Mem), ∀ (H : Heap) (locs : List Loc), va_P D vwCl (pool cy ad 100 21 M) H → va_D A (pool cy ad 100 21 M) → va_S A s.heap H locs → ∀ (ls : Array Slot), lv_has ls 3 [(0, .ref (ad 100)), (1, .int x1)] → k0 M = some M' → W p l e ({ frames := 1, cells := 0, slots := 0, locals := 21 } : Room) s m args below meth c H locs 0 0 (MQ below (va_Qv (fun (_ : Unit) => True) (fun _ t => PA D cy ad 100 21 A M' t) A) args s 0 0 A) (F0 m 0 ls [])) {x2 : Int32} {H : Heap} {locs : List Loc} (hP : va_P D vwCl (pool cy ad 100 21 M) H) (hD : va_D A (pool cy ad 100 21 M)) (hS : va_S A s.heap H locs) {ls : Array Slot} (hl : lv_has ls 3 [(0, .ref (ad 100)), (1, .int x1), (2, .int x2)]) (h : b_X6_unwinds_71 N x1 k0 x2 M = some M') : W p l e ({ frames := 1, cells := 0, slots := 0, locals := 21 } : Room) s m args below meth c H locs 0 0 (MQ below (va_Qv (fun (_ : Unit) => True) (fun _ t => PA D cy ad 100 21 A M' t) A) args s 0 0 A) (F0 m 71 ls []) := by
  obtain ⟨hx, hb, hml, hown, hts, hr, hlk, hK, hN, hA, hX⟩ := id C
  unfold b_X6_unwinds_71 at h
  refine lv_aload_n hx hb dX6_unwinds_71 rfl (lv_at hl 0 rfl) ?_
  refine lv_iload_n hx hb dX6_unwinds_72 rfl (lv_at hl 2 rfl) ?_
  obtain ⟨M73, g73, h⟩ := bd_of h
  refine call_vV (As := [.int x2]) (rest := []) C hP hD hS (c_X6_puts g73) (iL (by decide)) ⟨6, _, _, ent_6 (by decide), rfl, rfl⟩ (gV wd_855 wd_857 wd_32 wd_75 wd_858) ev_X6_puts ⟨rfl, rfl⟩ ⟨Nat.le_of_ble_eq_true rfl, Nat.le_of_ble_eq_true rfl⟩ hl.1 rfl (Nat.le_of_ble_eq_true rfl) dX6_unwinds_73 (fun H locs hP hD hS => ?_)
  refine lv_goto (tgt := 0) hx hb dX6_unwinds_76 (by decide) ?_
  exact hk0 _ _ _ hP hD hS _ (lv_sub hl [0, 1] rfl) h
def b_X6_unwinds_67 (N : Nat) (x1 : Int32) (k0 : Mem → Option (Mem)) (x2 : Int32) (t1 : Int32) (t2 : Int32) (M : Mem) : Option (Mem) := b_X6_unwinds_71 N x1 k0 x2 (sFI M 100 29 (t1 - t2))
set_option maxHeartbeats 4000000 in
set_option maxRecDepth 100000 in
theorem w_X6_unwinds_67 (C : CX p s m args meth c cX6_unwinds 3 none RX6 D cy ad zz 100 21 A) {N : Nat} {M : Mem} {x1 : Int32} {k0 : Mem → Option (Mem)} {M' : Mem} (hk0 : ∀ (M : Mem), ∀ (H : Heap) (locs : List Loc), va_P D vwCl (pool cy ad 100 21 M) H → va_D A (pool cy ad 100 21 M) → va_S A s.heap H locs → ∀ (ls : Array Slot), lv_has ls 3 [(0, .ref (ad 100)), (1, .int x1)] → k0 M = some M' → W p l e ({ frames := 1, cells := 0, slots := 0, locals := 21 } : Room) s m args below meth c H locs 0 0 (MQ below (va_Qv (fun (_ : Unit) => True) (fun _ t => PA D cy ad 100 21 A M' t) A) args s 0 0 A) (F0 m 0 ls [])) {x2 : Int32} {t1 : Int32} {t2 : Int32} {H : Heap} {locs : List Loc} (hP : va_P D vwCl (pool cy ad 100 21 M) H) (hD : va_D A (pool cy ad 100 21 M)) (hS : va_S A s.heap H locs) {ls : Array Slot} (hl : lv_has ls 3 [(0, .ref (ad 100)), (1, .int x1), (2, .int x2)]) (h : b_X6_unwinds_67 N x1 k0 x2 t1 t2 M = some M') : W p l e ({ frames := 1, cells := 0, slots := 0, locals := 21 } : Room) s m args below meth c H locs 0 0 (MQ below (va_Qv (fun (_ : Unit) => True) (fun _ t => PA D cy ad 100 21 A M' t) A) args s 0 0 A) (F0 m 67 ls [.int t2, .int t1, .ref (ad 100)]) := by
  obtain ⟨hx, hb, hml, hown, hts, hr, hlk, hK, hN, hA, hX⟩ := id C
  unfold b_X6_unwinds_67 at h
  refine lv_isub hx hb dX6_unwinds_67 ?_
  refine pf_6_29 C hP hD hS (iL (by decide)) (by decide) wd_911 dX6_unwinds_68 (fun H locs hP hD hS => ?_)
  exact w_X6_unwinds_71 C hk0 hP hD hS hl h
def b_X6_unwinds_62 (N : Nat) (x1 : Int32) (k0 : Mem → Option (Mem)) (x2 : Int32) (t1 : Int32) (M : Mem) : Option (Mem) := b_X6_unwinds_67 N x1 k0 x2 t1 (1 : Int32) M
set_option maxHeartbeats 4000000 in
set_option maxRecDepth 100000 in
theorem w_X6_unwinds_62 (C : CX p s m args meth c cX6_unwinds 3 none RX6 D cy ad zz 100 21 A) {N : Nat} {M : Mem} {x1 : Int32} {k0 : Mem → Option (Mem)} {M' : Mem} (hk0 : ∀ (M : Mem), ∀ (H : Heap) (locs : List Loc), va_P D vwCl (pool cy ad 100 21 M) H → va_D A (pool cy ad 100 21 M) → va_S A s.heap H locs → ∀ (ls : Array Slot), lv_has ls 3 [(0, .ref (ad 100)), (1, .int x1)] → k0 M = some M' → W p l e ({ frames := 1, cells := 0, slots := 0, locals := 21 } : Room) s m args below meth c H locs 0 0 (MQ below (va_Qv (fun (_ : Unit) => True) (fun _ t => PA D cy ad 100 21 A M' t) A) args s 0 0 A) (F0 m 0 ls [])) {x2 : Int32} {t1 : Int32} {H : Heap} {locs : List Loc} (hP : va_P D vwCl (pool cy ad 100 21 M) H) (hD : va_D A (pool cy ad 100 21 M)) (hS : va_S A s.heap H locs) {ls : Array Slot} (hl : lv_has ls 3 [(0, .ref (ad 100)), (1, .int x1), (2, .int x2)]) (h : b_X6_unwinds_62 N x1 k0 x2 t1 M = some M') : W p l e ({ frames := 1, cells := 0, slots := 0, locals := 21 } : Room) s m args below meth c H locs 0 0 (MQ below (va_Qv (fun (_ : Unit) => True) (fun _ t => PA D cy ad 100 21 A M' t) A) args s 0 0 A) (F0 m 62 ls [.int t1, .ref (ad 100)]) := by
  obtain ⟨hx, hb, hml, hown, hts, hr, hlk, hK, hN, hA, hX⟩ := id C
  unfold b_X6_unwinds_62 at h
  refine lv_iconst (v := 1) hx hb dX6_unwinds_62 (by decide) ?_
  refine lv_goto (tgt := 67) hx hb dX6_unwinds_63 (by decide) ?_
  exact w_X6_unwinds_67 C hk0 hP hD hS hl h
def b_X6_unwinds_35 (N : Nat) (x1 : Int32) (k0 : Mem → Option (Mem)) (M : Mem) : Option (Mem) := gd (inb (FI M 100 28) (len 116)) ((if (AI M 116 (FI M 100 28).toNatClampNeg) = (13 : Int32) then b_X6_unwinds_62 N x1 k0 (AI M 116 (FI M 100 28).toNatClampNeg) (FI M 100 29) M else (if (AI M 116 (FI M 100 28).toNatClampNeg) = (19 : Int32) then b_X6_unwinds_62 N x1 k0 (AI M 116 (FI M 100 28).toNatClampNeg) (FI M 100 29) M else b_X6_unwinds_67 N x1 k0 (AI M 116 (FI M 100 28).toNatClampNeg) (FI M 100 29) (0 : Int32) M)))
set_option maxHeartbeats 4000000 in
set_option maxRecDepth 100000 in
theorem w_X6_unwinds_35 (C : CX p s m args meth c cX6_unwinds 3 none RX6 D cy ad zz 100 21 A) {N : Nat} {M : Mem} {x1 : Int32} {k0 : Mem → Option (Mem)} {M' : Mem} (hk0 : ∀ (M : Mem), ∀ (H : Heap) (locs : List Loc), va_P D vwCl (pool cy ad 100 21 M) H → va_D A (pool cy ad 100 21 M) → va_S A s.heap H locs → ∀ (ls : Array Slot), lv_has ls 3 [(0, .ref (ad 100)), (1, .int x1)] → k0 M = some M' → W p l e ({ frames := 1, cells := 0, slots := 0, locals := 21 } : Room) s m args below meth c H locs 0 0 (MQ below (va_Qv (fun (_ : Unit) => True) (fun _ t => PA D cy ad 100 21 A M' t) A) args s 0 0 A) (F0 m 0 ls [])) {H : Heap} {locs : List Loc} (hP : va_P D vwCl (pool cy ad 100 21 M) H) (hD : va_D A (pool cy ad 100 21 M)) (hS : va_S A s.heap H locs) {ls : Array Slot} (hl : lv_has ls 3 [(0, .ref (ad 100)), (1, .int x1)]) (h : b_X6_unwinds_35 N x1 k0 M = some M') : W p l e ({ frames := 1, cells := 0, slots := 0, locals := 21 } : Room) s m args below meth c H locs 0 0 (MQ below (va_Qv (fun (_ : Unit) => True) (fun _ t => PA D cy ad 100 21 A M' t) A) args s 0 0 A) (F0 m 35 ls []) := by
  obtain ⟨hx, hb, hml, hown, hts, hr, hlk, hK, hN, hA, hX⟩ := id C
  unfold b_X6_unwinds_35 at h
  refine lv_aload_n hx hb dX6_unwinds_35 rfl (lv_at hl 0 rfl) ?_
  refine gf_6_27 C hP (iL (by decide)) (by decide) wd_909 dX6_unwinds_36 ?_
  refine lv_aload_n hx hb dX6_unwinds_39 rfl (lv_at hl 0 rfl) ?_
  refine gf_6_28 C hP (iL (by decide)) (by decide) wd_910 dX6_unwinds_40 ?_
  obtain ⟨gi1, h⟩ := gd_of h
  refine ia_ld C hP (iL (by decide)) (by decide) gi1 dX6_unwinds_43 ?_
  refine lv_istore_n (lv' := [(2, .int (AI M 116 (FI M 100 28).toNatClampNeg)), (0, .ref (ad 100)), (1, .int x1)]) hx hb dX6_unwinds_44 rfl hl (by decide) rfl (fun ls hl => ?_)
  refine lv_aload_n hx hb dX6_unwinds_45 rfl (lv_at hl 1 rfl) ?_
  refine lv_dup hx hb dX6_unwinds_46 rfl ?_
  refine gf_6_29 C hP (iL (by decide)) (by decide) wd_911 dX6_unwinds_47 ?_
  refine lv_iload_n hx hb dX6_unwinds_50 rfl (lv_at hl 0 rfl) ?_
  refine lv_bipush (v := 13) hx hb dX6_unwinds_51 (by decide) ?_
  refine lv_icmp_eq (tgt := 62) hx hb dX6_unwinds_53 (by decide) (fun c53 => ?_) (fun c53 => ?_)
  · replace h := it_t c53 h
    exact w_X6_unwinds_62 C hk0 hP hD hS (lv_sub hl [1, 2, 0] rfl) h
  · replace h := it_f c53 h
    refine lv_iload_n hx hb dX6_unwinds_56 rfl (lv_at hl 0 rfl) ?_
    refine lv_bipush (v := 19) hx hb dX6_unwinds_57 (by decide) ?_
    refine lv_icmp_ne (tgt := 66) hx hb dX6_unwinds_59 (by decide) (fun c59 => ?_) (fun c59 => ?_)
    · replace h := it_f c59 h
      refine lv_iconst (v := 0) hx hb dX6_unwinds_66 (by decide) ?_
      exact w_X6_unwinds_67 C hk0 hP hD hS (lv_sub hl [1, 2, 0] rfl) h
    · replace h := it_t c59 h
      exact w_X6_unwinds_62 C hk0 hP hD hS (lv_sub hl [1, 2, 0] rfl) h
def b_X6_unwinds_0 (N : Nat) (x1 : Int32) : Nat → Mem → Option (Mem)
  | 0, _ => none
  | fu + 1, M => (if (FI M 100 28) ≤ 0 then some M else gd (inb ((FI M 100 28) - (1 : Int32)) (len 116)) ((f_X6_rank (AI M 116 ((FI M 100 28) - (1 : Int32)).toNatClampNeg) M).bind fun r18 => (if r18 < x1 then some M else b_X6_unwinds_35 N x1 (b_X6_unwinds_0 N x1 fu) (sFI M 100 28 ((FI M 100 28) - (1 : Int32))))))
set_option maxHeartbeats 4000000 in
set_option maxRecDepth 100000 in
theorem w_X6_unwinds_0 (C : CX p s m args meth c cX6_unwinds 3 none RX6 D cy ad zz 100 21 A) {N : Nat} {x1 : Int32} {M' : Mem}  : ∀ (fu : Nat), ∀ (M : Mem), ∀ (H : Heap) (locs : List Loc), va_P D vwCl (pool cy ad 100 21 M) H → va_D A (pool cy ad 100 21 M) → va_S A s.heap H locs → ∀ (ls : Array Slot), lv_has ls 3 [(0, .ref (ad 100)), (1, .int x1)] → b_X6_unwinds_0 N x1 fu M = some M' → W p l e ({ frames := 1, cells := 0, slots := 0, locals := 21 } : Room) s m args below meth c H locs 0 0 (MQ below (va_Qv (fun (_ : Unit) => True) (fun _ t => PA D cy ad 100 21 A M' t) A) args s 0 0 A) (F0 m 0 ls []) := by
  obtain ⟨hx, hb, hml, hown, hts, hr, hlk, hK, hN, hA, hX⟩ := id C
  intro fu
  induction fu with
  | zero =>
    intro M H locs hP hD hS ls hl h
    exact no_some (show none = some _ from h)
  | succ fu ih =>
    intro M H locs hP hD hS ls hl h
    rw [b_X6_unwinds_0] at h
    refine lv_aload_n hx hb dX6_unwinds_0 rfl (lv_at hl 0 rfl) ?_
    refine gf_6_28 C hP (iL (by decide)) (by decide) wd_910 dX6_unwinds_1 ?_
    refine lv_if_le (tgt := 79) hx hb dX6_unwinds_4 (by decide) (fun c4 => ?_) (fun c4 => ?_)
    · replace h := it_t c4 h
      exact rt_v C hP hD hS dX6_unwinds_79 (Option.some.inj h)
    · replace h := it_f c4 h
      refine lv_aload_n hx hb dX6_unwinds_7 rfl (lv_at hl 0 rfl) ?_
      refine gf_6_27 C hP (iL (by decide)) (by decide) wd_909 dX6_unwinds_8 ?_
      refine lv_aload_n hx hb dX6_unwinds_11 rfl (lv_at hl 0 rfl) ?_
      refine gf_6_28 C hP (iL (by decide)) (by decide) wd_910 dX6_unwinds_12 ?_
      refine lv_iconst (v := 1) hx hb dX6_unwinds_15 (by decide) ?_
      refine lv_isub hx hb dX6_unwinds_16 ?_
      obtain ⟨gi1, h⟩ := gd_of h
      refine ia_ld C hP (iL (by decide)) (by decide) gi1 dX6_unwinds_17 ?_
      obtain ⟨r18, g18, h⟩ := bd_of h
      refine call_iS (As := [.int (AI M 116 ((FI M 100 28) - (1 : Int32)).toNatClampNeg)]) (rest := []) C hP hD hS (c_X6_rank g18) (gS wd_863 wd_864 wd_75 wd_865) es_X6_rank ⟨rfl, rfl⟩ ⟨Nat.le_of_ble_eq_true rfl, Nat.le_of_ble_eq_true rfl⟩ hl.1 rfl (Nat.le_of_ble_eq_true rfl) dX6_unwinds_18 (fun H locs hP hD hS => ?_)
      refine lv_iload_n hx hb dX6_unwinds_21 rfl (lv_at hl 1 rfl) ?_
      refine lv_icmp_lt (tgt := 79) hx hb dX6_unwinds_22 (by decide) (fun c22 => ?_) (fun c22 => ?_)
      · replace h := it_t c22 h
        exact rt_v C hP hD hS dX6_unwinds_79 (Option.some.inj h)
      · replace h := it_f c22 h
        refine lv_aload_n hx hb dX6_unwinds_25 rfl (lv_at hl 0 rfl) ?_
        refine lv_dup hx hb dX6_unwinds_26 rfl ?_
        refine gf_6_28 C hP (iL (by decide)) (by decide) wd_910 dX6_unwinds_27 ?_
        refine lv_iconst (v := 1) hx hb dX6_unwinds_30 (by decide) ?_
        refine lv_isub hx hb dX6_unwinds_31 ?_
        refine pf_6_28 C hP hD hS (iL (by decide)) (by decide) wd_910 dX6_unwinds_32 (fun H locs hP hD hS => ?_)
        exact w_X6_unwinds_35 C ih hP hD hS hl h
def f_X6_unwinds (N : Nat) (x1 : Int32) (M : Mem) : Option (Mem) := b_X6_unwinds_0 N x1 N M
theorem c_X6_unwinds {l : Launch} {D : va_G} {cy : Nat → ClassId} {ad : Nat → Nat} {zz : (Nat → Nat) × (Nat → Nat)} {N : Nat} {x1 : Int32} {M : Mem} {M' : Mem} (h : f_X6_unwinds N x1 M = some M') : CTv l D cy ad zz 100 21 yX6_unwinds (.code yX6_unwinds cX6_unwinds 3 none :: tb) ({ frames := 1, cells := 0, slots := 0, locals := 21 } : Room) [.ref (ad 100), .int x1] M M' := by
  intro sz
  refine CX.of (by decide +kernel) (fun p e s m args below meth c H ls C hP hD hS hl => ?_) (Nat.le_of_ble_eq_true rfl)
  exact w_X6_unwinds_0 C N _ _ _ hP hD hS _ hl h
theorem ev_X6_unwinds : yX6_unwinds.cls = RX6 ∧ yX6_unwinds.cls ≠ "java/lang/invoke/MethodHandle" ∧ yX6_unwinds.cls ≠ "java/lang/invoke/VarHandle" ∧ (parseMethodDescriptor yX6_unwinds.desc).map (fun d => d.parameters.length) = some 1 := by decide +kernel
end
