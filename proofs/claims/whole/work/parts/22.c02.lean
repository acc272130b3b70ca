section
variable {p : Program} {l : Launch} {e : Env} {s : State} {m : MethodId} {args : Array Value} {below : List Frame} {meth : Method} {c : Code} {D : va_G} {cy : Nat → ClassId} {ad : Nat → Nat} {zz : (Nat → Nat) × (Nat → Nat)} {A : Nat → Prop}
def b_J13_bitCount_95d88_55 (M : Mem) (y0 : Int64) : Option (Int32) := some ((y0.toInt32) &&& (127 : Int32))
set_option maxHeartbeats 4000000 in
set_option maxRecDepth 100000 in
theorem w_J13_bitCount_95d88_55 (C : CX p s m args meth c cJ13_bitCount_95d88 2 (some .int) RJ13 D cy ad zz 0 82 A) {M : Mem} {rr : Int32} {y0 : Int64} {H : Heap} {locs : List Loc} (hP : va_P D vwCl (pool cy ad 0 82 M) H) (hD : va_D A (pool cy ad 0 82 M)) (hS : va_S A s.heap H locs) {ls : Array Slot} (hl : lv_has ls 2 [(0, .long y0)]) (h : b_J13_bitCount_95d88_55 M y0 = some rr) : W p l e ({ frames := 0, cells := 0, slots := 0, locals := 0 } : Room) s m args below meth c H locs 0 0 (MQ below (va_Qi (fun (x : Int32) (_ : Unit) => x = rr) (fun _ t => PA D cy ad 0 82 A M t) A) args s 0 0 A) (F0 m 55 ls []) := by
  obtain ⟨hx, hb, hml, hown, hts, hr, hlk, hK, hN, hA, hX⟩ := id C
  unfold b_J13_bitCount_95d88_55 at h
  refine lv_lload_n hx hb dJ13_bitCount_95d88_55 rfl (lv_at hl 0 rfl) ?_
  refine lv_l2i (v := (y0.toInt32)) hx hb dJ13_bitCount_95d88_56 rfl ?_
  refine lv_bipush (v := 127) hx hb dJ13_bitCount_95d88_57 (by decide) ?_
  refine lv_iand hx hb dJ13_bitCount_95d88_59 ?_
  exact rt_i (r := ((y0.toInt32) &&& (127 : Int32))) C hP hD hS dJ13_bitCount_95d88_60 ⟨Option.some.inj h, rfl⟩
def b_J13_bitCount_95d88_48 (M : Mem) (y0 : Int64) : Option (Int32) := b_J13_bitCount_95d88_55 M (y0 + ((y0.toUInt64 >>> ((32 : Int32).toInt64.toUInt64 &&& Int64.toUInt64 63)).toInt64))
set_option maxHeartbeats 4000000 in
set_option maxRecDepth 100000 in
theorem w_J13_bitCount_95d88_48 (C : CX p s m args meth c cJ13_bitCount_95d88 2 (some .int) RJ13 D cy ad zz 0 82 A) {M : Mem} {rr : Int32} {y0 : Int64} {H : Heap} {locs : List Loc} (hP : va_P D vwCl (pool cy ad 0 82 M) H) (hD : va_D A (pool cy ad 0 82 M)) (hS : va_S A s.heap H locs) {ls : Array Slot} (hl : lv_has ls 2 [(0, .long y0)]) (h : b_J13_bitCount_95d88_48 M y0 = some rr) : W p l e ({ frames := 0, cells := 0, slots := 0, locals := 0 } : Room) s m args below meth c H locs 0 0 (MQ below (va_Qi (fun (x : Int32) (_ : Unit) => x = rr) (fun _ t => PA D cy ad 0 82 A M t) A) args s 0 0 A) (F0 m 48 ls []) := by
  obtain ⟨hx, hb, hml, hown, hts, hr, hlk, hK, hN, hA, hX⟩ := id C
  unfold b_J13_bitCount_95d88_48 at h
  refine lv_lload_n hx hb dJ13_bitCount_95d88_48 rfl (lv_at hl 0 rfl) ?_
  refine lv_lload_n hx hb dJ13_bitCount_95d88_49 rfl (lv_at hl 0 rfl) ?_
  refine lv_bipush (v := 32) hx hb dJ13_bitCount_95d88_50 (by decide) ?_
  refine lv_lushr (v := (y0.toUInt64 >>> ((32 : Int32).toInt64.toUInt64 &&& Int64.toUInt64 63)).toInt64) hx hb dJ13_bitCount_95d88_52 rfl ?_
  refine lv_ladd hx hb dJ13_bitCount_95d88_53 ?_
  refine lv_lstore_n (lv' := [(0, .long (y0 + ((y0.toUInt64 >>> ((32 : Int32).toInt64.toUInt64 &&& Int64.toUInt64 63)).toInt64)))]) hx hb dJ13_bitCount_95d88_54 rfl hl (by decide) rfl (fun ls hl => ?_)
  exact w_J13_bitCount_95d88_55 C hP hD hS hl h
def b_J13_bitCount_95d88_41 (M : Mem) (y0 : Int64) : Option (Int32) := b_J13_bitCount_95d88_48 M (y0 + ((y0.toUInt64 >>> ((16 : Int32).toInt64.toUInt64 &&& Int64.toUInt64 63)).toInt64))
set_option maxHeartbeats 4000000 in
set_option maxRecDepth 100000 in
theorem w_J13_bitCount_95d88_41 (C : CX p s m args meth c cJ13_bitCount_95d88 2 (some .int) RJ13 D cy ad zz 0 82 A) {M : Mem} {rr : Int32} {y0 : Int64} {H : Heap} {locs : List Loc} (hP : va_P D vwCl (pool cy ad 0 82 M) H) (hD : va_D A (pool cy ad 0 82 M)) (hS : va_S A s.heap H locs) {ls : Array Slot} (hl : lv_has ls 2 [(0, .long y0)]) (h : b_J13_bitCount_95d88_41 M y0 = some rr) : W p l e ({ frames := 0, cells := 0, slots := 0, locals := 0 } : Room) s m args below meth c H locs 0 0 (MQ below (va_Qi (fun (x : Int32) (_ : Unit) => x = rr) (fun _ t => PA D cy ad 0 82 A M t) A) args s 0 0 A) (F0 m 41 ls []) := by
  obtain ⟨hx, hb, hml, hown, hts, hr, hlk, hK, hN, hA, hX⟩ := id C
  unfold b_J13_bitCount_95d88_41 at h
  refine lv_lload_n hx hb dJ13_bitCount_95d88_41 rfl (lv_at hl 0 rfl) ?_
  refine lv_lload_n hx hb dJ13_bitCount_95d88_42 rfl (lv_at hl 0 rfl) ?_
  refine lv_bipush (v := 16) hx hb dJ13_bitCount_95d88_43 (by decide) ?_
  refine lv_lushr (v := (y0.toUInt64 >>> ((16 : Int32).toInt64.toUInt64 &&& Int64.toUInt64 63)).toInt64) hx hb dJ13_bitCount_95d88_45 rfl ?_
  refine lv_ladd hx hb dJ13_bitCount_95d88_46 ?_
  refine lv_lstore_n (lv' := [(0, .long (y0 + ((y0.toUInt64 >>> ((16 : Int32).toInt64.toUInt64 &&& Int64.toUInt64 63)).toInt64)))]) hx hb dJ13_bitCount_95d88_47 rfl hl (by decide) rfl (fun ls hl => ?_)
  exact w_J13_bitCount_95d88_48 C hP hD hS hl h
def b_J13_bitCount_95d88_34 (M : Mem) (y0 : Int64) : Option (Int32) := b_J13_bitCount_95d88_41 M (y0 + ((y0.toUInt64 >>> ((8 : Int32).toInt64.toUInt64 &&& Int64.toUInt64 63)).toInt64))
set_option maxHeartbeats 4000000 in
set_option maxRecDepth 100000 in
theorem w_J13_bitCount_95d88_34 (C : CX p s m args meth c cJ13_bitCount_95d88 2 (some .int) RJ13 D cy ad zz 0 82 A) {M : Mem} {rr : Int32} {y0 : Int64} {H : Heap} {locs : List Loc} (hP : va_P D vwCl (pool cy ad 0 82 M) H) (hD : va_D A (pool cy ad 0 82 M)) (hS : va_S A s.heap H locs) {ls : Array Slot} (hl : lv_has ls 2 [(0, .long y0)]) (h : b_J13_bitCount_95d88_34 M y0 = some rr) : W p l e ({ frames := 0, cells := 0, slots := 0, locals := 0 } : Room) s m args below meth c H locs 0 0 (MQ below (va_Qi (fun (x : Int32) (_ : Unit) => x = rr) (fun _ t => PA D cy ad 0 82 A M t) A) args s 0 0 A) (F0 m 34 ls []) := by
  obtain ⟨hx, hb, hml, hown, hts, hr, hlk, hK, hN, hA, hX⟩ := id C
  unfold b_J13_bitCount_95d88_34 at h
  refine lv_lload_n hx hb dJ13_bitCount_95d88_34 rfl (lv_at hl 0 rfl) ?_
  refine lv_lload_n hx hb dJ13_bitCount_95d88_35 rfl (lv_at hl 0 rfl) ?_
  refine lv_bipush (v := 8) hx hb dJ13_bitCount_95d88_36 (by decide) ?_
  refine lv_lushr (v := (y0.toUInt64 >>> ((8 : Int32).toInt64.toUInt64 &&& Int64.toUInt64 63)).toInt64) hx hb dJ13_bitCount_95d88_38 rfl ?_
  refine lv_ladd hx hb dJ13_bitCount_95d88_39 ?_
  refine lv_lstore_n (lv' := [(0, .long (y0 + ((y0.toUInt64 >>> ((8 : Int32).toInt64.toUInt64 &&& Int64.toUInt64 63)).toInt64)))]) hx hb dJ13_bitCount_95d88_40 rfl hl (by decide) rfl (fun ls hl => ?_)
  exact w_J13_bitCount_95d88_41 C hP hD hS hl h
def b_J13_bitCount_95d88_24 (M : Mem) (y0 : Int64) : Option (Int32) := b_J13_bitCount_95d88_34 M ((y0 + ((y0.toUInt64 >>> ((4 : Int32).toInt64.toUInt64 &&& Int64.toUInt64 63)).toInt64)) &&& (1085102592571150095 : Int64))
set_option maxHeartbeats 4000000 in
set_option maxRecDepth 100000 in
theorem w_J13_bitCount_95d88_24 (C : CX p s m args meth c cJ13_bitCount_95d88 2 (some .int) RJ13 D cy ad zz 0 82 A) {M : Mem} {rr : Int32} {y0 : Int64} {H : Heap} {locs : List Loc} (hP : va_P D vwCl (pool cy ad 0 82 M) H) (hD : va_D A (pool cy ad 0 82 M)) (hS : va_S A s.heap H locs) {ls : Array Slot} (hl : lv_has ls 2 [(0, .long y0)]) (h : b_J13_bitCount_95d88_24 M y0 = some rr) : W p l e ({ frames := 0, cells := 0, slots := 0, locals := 0 } : Room) s m args below meth c H locs 0 0 (MQ below (va_Qi (fun (x : Int32) (_ : Unit) => x = rr) (fun _ t => PA D cy ad 0 82 A M t) A) args s 0 0 A) (F0 m 24 ls []) := by
  obtain ⟨hx, hb, hml, hown, hts, hr, hlk, hK, hN, hA, hX⟩ := id C
  unfold b_J13_bitCount_95d88_24 at h
  refine lv_lload_n hx hb dJ13_bitCount_95d88_24 rfl (lv_at hl 0 rfl) ?_
  refine lv_lload_n hx hb dJ13_bitCount_95d88_25 rfl (lv_at hl 0 rfl) ?_
  refine lv_iconst (v := 4) hx hb dJ13_bitCount_95d88_26 (by decide) ?_
  refine lv_lushr (v := (y0.toUInt64 >>> ((4 : Int32).toInt64.toUInt64 &&& Int64.toUInt64 63)).toInt64) hx hb dJ13_bitCount_95d88_27 rfl ?_
  refine lv_ladd hx hb dJ13_bitCount_95d88_28 ?_
  refine lv_ldc2 hx hb hown (hts _ wd_417) dJ13_bitCount_95d88_29 ?_
  refine lv_land hx hb dJ13_bitCount_95d88_32 ?_
  refine lv_lstore_n (lv' := [(0, .long ((y0 + ((y0.toUInt64 >>> ((4 : Int32).toInt64.toUInt64 &&& Int64.toUInt64 63)).toInt64)) &&& (1085102592571150095 : Int64)))]) hx hb dJ13_bitCount_95d88_33 rfl hl (by decide) rfl (fun ls hl => ?_)
  exact w_J13_bitCount_95d88_34 C hP hD hS hl h
def b_J13_bitCount_95d88_10 (M : Mem) (y0 : Int64) : Option (Int32) := b_J13_bitCount_95d88_24 M ((y0 &&& (3689348814741910323 : Int64)) + (((y0.toUInt64 >>> ((2 : Int32).toInt64.toUInt64 &&& Int64.toUInt64 63)).toInt64) &&& (3689348814741910323 : Int64)))
set_option maxHeartbeats 4000000 in
set_option maxRecDepth 100000 in
theorem w_J13_bitCount_95d88_10 (C : CX p s m args meth c cJ13_bitCount_95d88 2 (some .int) RJ13 D cy ad zz 0 82 A) {M : Mem} {rr : Int32} {y0 : Int64} {H : Heap} {locs : List Loc} (hP : va_P D vwCl (pool cy ad 0 82 M) H) (hD : va_D A (pool cy ad 0 82 M)) (hS : va_S A s.heap H locs) {ls : Array Slot} (hl : lv_has ls 2 [(0, .long y0)]) (h : b_J13_bitCount_95d88_10 M y0 = some rr) : W p l e ({ frames := 0, cells := 0, slots := 0, locals := 0 } : Room) s m args below meth c H locs 0 0 (MQ below (va_Qi (fun (x : Int32) (_ : Unit) => x = rr) (fun _ t => PA D cy ad 0 82 A M t) A) args s 0 0 A) (F0 m 10 ls []) := by
  obtain ⟨hx, hb, hml, hown, hts, hr, hlk, hK, hN, hA, hX⟩ := id C
  unfold b_J13_bitCount_95d88_10 at h
  refine lv_lload_n hx hb dJ13_bitCount_95d88_10 rfl (lv_at hl 0 rfl) ?_
  refine lv_ldc2 hx hb hown (hts _ wd_416) dJ13_bitCount_95d88_11 ?_
  refine lv_land hx hb dJ13_bitCount_95d88_14 ?_
  refine lv_lload_n hx hb dJ13_bitCount_95d88_15 rfl (lv_at hl 0 rfl) ?_
  refine lv_iconst (v := 2) hx hb dJ13_bitCount_95d88_16 (by decide) ?_
  refine lv_lushr (v := (y0.toUInt64 >>> ((2 : Int32).toInt64.toUInt64 &&& Int64.toUInt64 63)).toInt64) hx hb dJ13_bitCount_95d88_17 rfl ?_
  refine lv_ldc2 hx hb hown (hts _ wd_416) dJ13_bitCount_95d88_18 ?_
  refine lv_land hx hb dJ13_bitCount_95d88_21 ?_
  refine lv_ladd hx hb dJ13_bitCount_95d88_22 ?_
  refine lv_lstore_n (lv' := [(0, .long ((y0 &&& (3689348814741910323 : Int64)) + (((y0.toUInt64 >>> ((2 : Int32).toInt64.toUInt64 &&& Int64.toUInt64 63)).toInt64) &&& (3689348814741910323 : Int64))))]) hx hb dJ13_bitCount_95d88_23 rfl hl (by decide) rfl (fun ls hl => ?_)
  exact w_J13_bitCount_95d88_24 C hP hD hS hl h
def b_J13_bitCount_95d88_0 (M : Mem) (y0 : Int64) : Option (Int32) := b_J13_bitCount_95d88_10 M (y0 - (((y0.toUInt64 >>> ((1 : Int32).toInt64.toUInt64 &&& Int64.toUInt64 63)).toInt64) &&& (6148914691236517205 : Int64)))
set_option maxHeartbeats 4000000 in
set_option maxRecDepth 100000 in
theorem w_J13_bitCount_95d88_0 (C : CX p s m args meth c cJ13_bitCount_95d88 2 (some .int) RJ13 D cy ad zz 0 82 A) {M : Mem} {rr : Int32} {y0 : Int64} {H : Heap} {locs : List Loc} (hP : va_P D vwCl (pool cy ad 0 82 M) H) (hD : va_D A (pool cy ad 0 82 M)) (hS : va_S A s.heap H locs) {ls : Array Slot} (hl : lv_has ls 2 [(0, .long y0)]) (h : b_J13_bitCount_95d88_0 M y0 = some rr) : W p l e ({ frames := 0, cells := 0, slots := 0, locals := 0 } : Room) s m args below meth c H locs 0 0 (MQ below (va_Qi (fun (x : Int32) (_ : Unit) => x = rr) (fun _ t => PA D cy ad 0 82 A M t) A) args s 0 0 A) (F0 m 0 ls []) := by
  obtain ⟨hx, hb, hml, hown, hts, hr, hlk, hK, hN, hA, hX⟩ := id C
  unfold b_J13_bitCount_95d88_0 at h
  refine lv_lload_n hx hb dJ13_bitCount_95d88_0 rfl (lv_at hl 0 rfl) ?_
  refine lv_lload_n hx hb dJ13_bitCount_95d88_1 rfl (lv_at hl 0 rfl) ?_
  refine lv_iconst (v := 1) hx hb dJ13_bitCount_95d88_2 (by decide) ?_
  refine lv_lushr (v := (y0.toUInt64 >>> ((1 : Int32).toInt64.toUInt64 &&& Int64.toUInt64 63)).toInt64) hx hb dJ13_bitCount_95d88_3 rfl ?_
  refine lv_ldc2 hx hb hown (hts _ wd_415) dJ13_bitCount_95d88_4 ?_
  refine lv_land hx hb dJ13_bitCount_95d88_7 ?_
  refine lv_lsub hx hb dJ13_bitCount_95d88_8 ?_
  refine lv_lstore_n (lv' := [(0, .long (y0 - (((y0.toUInt64 >>> ((1 : Int32).toInt64.toUInt64 &&& Int64.toUInt64 63)).toInt64) &&& (6148914691236517205 : Int64))))]) hx hb dJ13_bitCount_95d88_9 rfl hl (by decide) rfl (fun ls hl => ?_)
  exact w_J13_bitCount_95d88_10 C hP hD hS hl h
def f_J13_bitCount_95d88 (y0 : Int64) (M : Mem) : Option (Int32) := b_J13_bitCount_95d88_0 M y0
theorem c_J13_bitCount_95d88 {l : Launch} {D : va_G} {cy : Nat → ClassId} {ad : Nat → Nat} {zz : (Nat → Nat) × (Nat → Nat)} {y0 : Int64} {M : Mem} {rr : Int32} (h : f_J13_bitCount_95d88 y0 M = some rr) : CTi l D cy ad zz 0 82 yJ13_bitCount_95d88 (.code yJ13_bitCount_95d88 cJ13_bitCount_95d88 2 (some .int) :: tb) ({ frames := 0, cells := 0, slots := 0, locals := 0 } : Room) [.long y0] M rr M := by
  intro sz
  refine CX.of (by decide +kernel) (fun p e s m args below meth c H ls C hP hD hS hl => ?_) (Nat.le_of_ble_eq_true rfl)
  exact w_J13_bitCount_95d88_0 C hP hD hS hl h
theorem es_J13_bitCount_95d88 : yJ13_bitCount_95d88.cls ≠ "java/lang/invoke/MethodHandle" ∧ yJ13_bitCount_95d88.cls ≠ "java/lang/invoke/VarHandle" ∧ (parseMethodDescriptor yJ13_bitCount_95d88.desc).map (fun d => d.parameters.length) = some 1 := by decide +kernel
def b_X5_count_0 (M : Mem) (x1 : Int32) : Option (Int32) := (if x1 = 0 then some (FI M 1 3) else (if x1 = 1 then (f_J13_bitCount_95d88 (FJ M 1 0) M).bind fun r55 => some r55 else (if x1 = 2 then some (FI M 1 1) else (if x1 = 3 then some (FI M 0 8) else (if x1 = 4 then some (FI M 1 2) else (if x1 = 5 then some (FI M 0 9) else some (-2 : Int32)))))))
set_option maxHeartbeats 4000000 in
set_option maxRecDepth 100000 in
theorem w_X5_count_0 (C : CX p s m args meth c cX5_count 2 (some .int) RX5 D cy ad zz 0 82 A) {M : Mem} {x1 : Int32} {rr : Int32} {H : Heap} {locs : List Loc} (hP : va_P D vwCl (pool cy ad 0 82 M) H) (hD : va_D A (pool cy ad 0 82 M)) (hS : va_S A s.heap H locs) {ls : Array Slot} (hl : lv_has ls 2 [(0, .ref (ad 0)), (1, .int x1)]) (h : b_X5_count_0 M x1 = some rr) : W p l e ({ frames := 1, cells := 0, slots := 0, locals := 21 } : Room) s m args below meth c H locs 0 0 (MQ below (va_Qi (fun (x : Int32) (_ : Unit) => x = rr) (fun _ t => PA D cy ad 0 82 A M t) A) args s 0 0 A) (F0 m 0 ls []) := by
  obtain ⟨hx, hb, hml, hown, hts, hr, hlk, hK, hN, hA, hX⟩ := id C
  unfold b_X5_count_0 at h
  refine lv_iload_n hx hb dX5_count_0 rfl (lv_at hl 1 rfl) ?_
  by_cases c1_0 : x1 = 0
  · replace h := it_t c1_0 h
    refine lv_tableIn (off := 39) (tgt := 40) hx hb dX5_count_1 (by rw [c1_0]; decide) (by rw [c1_0]; decide) (by rw [c1_0]; rfl) (by decide) ?_
    refine lv_aload_n hx hb dX5_count_40 rfl (lv_at hl 0 rfl) ?_
    refine gf_5_0 C hP (iL (by decide)) (by decide) wd_374 dX5_count_41 ?_
    refine gf_4_3 C hP (iL (by decide)) (by decide) wd_149 dX5_count_44 ?_
    exact rt_i (r := (FI M 1 3)) C hP hD hS dX5_count_47 ⟨Option.some.inj h, rfl⟩
  · replace h := it_f c1_0 h
    by_cases c1_1 : x1 = 1
    · replace h := it_t c1_1 h
      refine lv_tableIn (off := 47) (tgt := 48) hx hb dX5_count_1 (by rw [c1_1]; decide) (by rw [c1_1]; decide) (by rw [c1_1]; rfl) (by decide) ?_
      refine lv_aload_n hx hb dX5_count_48 rfl (lv_at hl 0 rfl) ?_
      refine gf_5_0 C hP (iL (by decide)) (by decide) wd_374 dX5_count_49 ?_
      refine gf_4_0 C hP (iL (by decide)) (by decide) wd_143 dX5_count_52 ?_
      obtain ⟨r55, g55, h⟩ := bd_of h
      refine call_iS (As := [.long (FJ M 1 0)]) (rest := []) C hP hD hS (c_J13_bitCount_95d88 g55) (gS wd_412 wd_413 wd_76 wd_414) es_J13_bitCount_95d88 ⟨rfl, rfl⟩ ⟨Nat.le_of_ble_eq_true rfl, Nat.le_of_ble_eq_true rfl⟩ hl.1 rfl (Nat.le_of_ble_eq_true rfl) dX5_count_55 (fun H locs hP hD hS => ?_)
      exact rt_i (r := r55) C hP hD hS dX5_count_58 ⟨Option.some.inj h, rfl⟩
    · replace h := it_f c1_1 h
      by_cases c1_2 : x1 = 2
      · replace h := it_t c1_2 h
        refine lv_tableIn (off := 58) (tgt := 59) hx hb dX5_count_1 (by rw [c1_2]; decide) (by rw [c1_2]; decide) (by rw [c1_2]; rfl) (by decide) ?_
        refine lv_aload_n hx hb dX5_count_59 rfl (lv_at hl 0 rfl) ?_
        refine gf_5_0 C hP (iL (by decide)) (by decide) wd_374 dX5_count_60 ?_
        refine gf_4_1 C hP (iL (by decide)) (by decide) wd_145 dX5_count_63 ?_
        exact rt_i (r := (FI M 1 1)) C hP hD hS dX5_count_66 ⟨Option.some.inj h, rfl⟩
      · replace h := it_f c1_2 h
        by_cases c1_3 : x1 = 3
        · replace h := it_t c1_3 h
          refine lv_tableIn (off := 66) (tgt := 67) hx hb dX5_count_1 (by rw [c1_3]; decide) (by rw [c1_3]; decide) (by rw [c1_3]; rfl) (by decide) ?_
          refine lv_aload_n hx hb dX5_count_67 rfl (lv_at hl 0 rfl) ?_
          refine gf_5_8 C hP (iL (by decide)) (by decide) wd_382 dX5_count_68 ?_
          exact rt_i (r := (FI M 0 8)) C hP hD hS dX5_count_71 ⟨Option.some.inj h, rfl⟩
        · replace h := it_f c1_3 h
          by_cases c1_4 : x1 = 4
          · replace h := it_t c1_4 h
            refine lv_tableIn (off := 71) (tgt := 72) hx hb dX5_count_1 (by rw [c1_4]; decide) (by rw [c1_4]; decide) (by rw [c1_4]; rfl) (by decide) ?_
            refine lv_aload_n hx hb dX5_count_72 rfl (lv_at hl 0 rfl) ?_
            refine gf_5_0 C hP (iL (by decide)) (by decide) wd_374 dX5_count_73 ?_
            refine gf_4_2 C hP (iL (by decide)) (by decide) wd_147 dX5_count_76 ?_
            exact rt_i (r := (FI M 1 2)) C hP hD hS dX5_count_79 ⟨Option.some.inj h, rfl⟩
          · replace h := it_f c1_4 h
            by_cases c1_5 : x1 = 5
            · replace h := it_t c1_5 h
              refine lv_tableIn (off := 79) (tgt := 80) hx hb dX5_count_1 (by rw [c1_5]; decide) (by rw [c1_5]; decide) (by rw [c1_5]; rfl) (by decide) ?_
              refine lv_aload_n hx hb dX5_count_80 rfl (lv_at hl 0 rfl) ?_
              refine gf_5_9 C hP (iL (by decide)) (by decide) wd_383 dX5_count_81 ?_
              exact rt_i (r := (FI M 0 9)) C hP hD hS dX5_count_84 ⟨Option.some.inj h, rfl⟩
            · replace h := it_f c1_5 h
              have e1_0 : x1.toInt ≠ 0 := fun q => c1_0 (Int32.toInt_inj.mp (q.trans (by decide)))
              have e1_1 : x1.toInt ≠ 1 := fun q => c1_1 (Int32.toInt_inj.mp (q.trans (by decide)))
              have e1_2 : x1.toInt ≠ 2 := fun q => c1_2 (Int32.toInt_inj.mp (q.trans (by decide)))
              have e1_3 : x1.toInt ≠ 3 := fun q => c1_3 (Int32.toInt_inj.mp (q.trans (by decide)))
              have e1_4 : x1.toInt ≠ 4 := fun q => c1_4 (Int32.toInt_inj.mp (q.trans (by decide)))
              have e1_5 : x1.toInt ≠ 5 := fun q => c1_5 (Int32.toInt_inj.mp (q.trans (by decide)))
              refine lv_tableOut (tgt := 85) hx hb dX5_count_1 (by omega) (by decide) ?_
              refine lv_bipush (v := -2) hx hb dX5_count_85 (by decide) ?_
              exact rt_i (r := (-2 : Int32)) C hP hD hS dX5_count_87 ⟨Option.some.inj h, rfl⟩
def f_X5_count (x1 : Int32) (M : Mem) : Option (Int32) := b_X5_count_0 M x1
theorem c_X5_count {l : Launch} {D : va_G} {cy : Nat → ClassId} {ad : Nat → Nat} {zz : (Nat → Nat) × (Nat → Nat)} {x1 : Int32} {M : Mem} {rr : Int32} (h : f_X5_count x1 M = some rr) : CTi l D cy ad zz 0 82 yX5_count (.code yX5_count cX5_count 2 (some .int) :: tb) ({ frames := 1, cells := 0, slots := 0, locals := 21 } : Room) [.ref (ad 0), .int x1] M rr M := by
  intro sz
  refine CX.of (by decide +kernel) (fun p e s m args below meth c H ls C hP hD hS hl => ?_) (Nat.le_of_ble_eq_true rfl)
  exact w_X5_count_0 C hP hD hS hl h
theorem ev_X5_count : yX5_count.cls = RX5 ∧ yX5_count.cls ≠ "java/lang/invoke/MethodHandle" ∧ yX5_count.cls ≠ "java/lang/invoke/VarHandle" ∧ (parseMethodDescriptor yX5_count.desc).map (fun d => d.parameters.length) = some 1 := by decide +kernel
def b_X5_dusk_0 (x1 : Int32) (M : Mem) : Option (Int32 × Mem) := (if x1 < 0 then some ((-2 : Int32), M) else (if x1 ≤ (999 : Int32) then some ((FI M 1 1), (sFI M 1 1 x1)) else some ((-2 : Int32), M)))
set_option maxHeartbeats 4000000 in
set_option maxRecDepth 100000 in
theorem w_X5_dusk_0 (C : CX p s m args meth c cX5_dusk 3 (some .int) RX5 D cy ad zz 0 82 A) {M : Mem} {x1 : Int32} {rr : Int32} {M' : Mem} {H : Heap} {locs : List Loc} (hP : va_P D vwCl (pool cy ad 0 82 M) H) (hD : va_D A (pool cy ad 0 82 M)) (hS : va_S A s.heap H locs) {ls : Array Slot} (hl : lv_has ls 3 [(0, .ref (ad 0)), (1, .int x1)]) (h : b_X5_dusk_0 x1 M = some (rr, M')) : W p l e ({ frames := 0, cells := 0, slots := 0, locals := 0 } : Room) s m args below meth c H locs 0 0 (MQ below (va_Qi (fun (x : Int32) (_ : Unit) => x = rr) (fun _ t => PA D cy ad 0 82 A M' t) A) args s 0 0 A) (F0 m 0 ls []) := by
  obtain ⟨hx, hb, hml, hown, hts, hr, hlk, hK, hN, hA, hX⟩ := id C
  unfold b_X5_dusk_0 at h
  refine lv_iload_n hx hb dX5_dusk_0 rfl (lv_at hl 1 rfl) ?_
  refine lv_if_lt (tgt := 11) hx hb dX5_dusk_1 (by decide) (fun c1 => ?_) (fun c1 => ?_)
  · replace h := it_t c1 h
    refine lv_bipush (v := -2) hx hb dX5_dusk_11 (by decide) ?_
    exact rt_i (r := (-2 : Int32)) C hP hD hS dX5_dusk_13 (rw_end h)
  · replace h := it_f c1 h
    refine lv_iload_n hx hb dX5_dusk_4 rfl (lv_at hl 1 rfl) ?_
    refine lv_sipush (v := 999) hx hb dX5_dusk_5 (by decide) ?_
    refine lv_icmp_le (tgt := 14) hx hb dX5_dusk_8 (by decide) (fun c8 => ?_) (fun c8 => ?_)
    · replace h := it_t c8 h
      refine lv_aload_n hx hb dX5_dusk_14 rfl (lv_at hl 0 rfl) ?_
      refine gf_5_0 C hP (iL (by decide)) (by decide) wd_374 dX5_dusk_15 ?_
      refine gf_4_1 C hP (iL (by decide)) (by decide) wd_145 dX5_dusk_18 ?_
      refine lv_istore_n (lv' := [(2, .int (FI M 1 1)), (0, .ref (ad 0)), (1, .int x1)]) hx hb dX5_dusk_21 rfl hl (by decide) rfl (fun ls hl => ?_)
      refine lv_aload_n hx hb dX5_dusk_22 rfl (lv_at hl 1 rfl) ?_
      refine gf_5_0 C hP (iL (by decide)) (by decide) wd_374 dX5_dusk_23 ?_
      refine lv_iload_n hx hb dX5_dusk_26 rfl (lv_at hl 2 rfl) ?_
      refine pf_4_1 C hP hD hS (iL (by decide)) (by decide) wd_145 dX5_dusk_27 (fun H locs hP hD hS => ?_)
      refine lv_iload_n hx hb dX5_dusk_30 rfl (lv_at hl 0 rfl) ?_
      exact rt_i (r := (FI M 1 1)) C hP hD hS dX5_dusk_31 (rw_end h)
    · replace h := it_f c8 h
      refine lv_bipush (v := -2) hx hb dX5_dusk_11 (by decide) ?_
      exact rt_i (r := (-2 : Int32)) C hP hD hS dX5_dusk_13 (rw_end h)
def f_X5_dusk (x1 : Int32) (M : Mem) : Option (Int32 × Mem) := b_X5_dusk_0 x1 M
theorem c_X5_dusk {l : Launch} {D : va_G} {cy : Nat → ClassId} {ad : Nat → Nat} {zz : (Nat → Nat) × (Nat → Nat)} {x1 : Int32} {M : Mem} {rr : Int32} {M' : Mem} (h : f_X5_dusk x1 M = some (rr, M')) : CTi l D cy ad zz 0 82 yX5_dusk (.code yX5_dusk cX5_dusk 3 (some .int) :: tb) ({ frames := 0, cells := 0, slots := 0, locals := 0 } : Room) [.ref (ad 0), .int x1] M rr M' := by
  intro sz
  refine CX.of (by decide +kernel) (fun p e s m args below meth c H ls C hP hD hS hl => ?_) (Nat.le_of_ble_eq_true rfl)
  exact w_X5_dusk_0 C hP hD hS hl h
theorem ev_X5_dusk : yX5_dusk.cls = RX5 ∧ yX5_dusk.cls ≠ "java/lang/invoke/MethodHandle" ∧ yX5_dusk.cls ≠ "java/lang/invoke/VarHandle" ∧ (parseMethodDescriptor yX5_dusk.desc).map (fun d => d.parameters.length) = some 1 := by decide +kernel
def b_X5_isCell_0 (M : Mem) (x0 : Int32) : Option (Bool) := (if x0 < 0 then some false else (if (64 : Int32) ≤ x0 then some false else some true))
set_option maxHeartbeats 4000000 in
set_option maxRecDepth 100000 in
theorem w_X5_isCell_0 (C : CX p s m args meth c cX5_isCell 1 (some .boolean) RX5 D cy ad zz 0 82 A) {M : Mem} {x0 : Int32} {rr : Bool} {H : Heap} {locs : List Loc} (hP : va_P D vwCl (pool cy ad 0 82 M) H) (hD : va_D A (pool cy ad 0 82 M)) (hS : va_S A s.heap H locs) {ls : Array Slot} (hl : lv_has ls 1 [(0, .int x0)]) (h : b_X5_isCell_0 M x0 = some rr) : W p l e ({ frames := 0, cells := 0, slots := 0, locals := 0 } : Room) s m args below meth c H locs 0 0 (MQ below (va_Qi (fun (x : Int32) (_ : Unit) => x = b2i rr) (fun _ t => PA D cy ad 0 82 A M t) A) args s 0 0 A) (F0 m 0 ls []) := by
  obtain ⟨hx, hb, hml, hown, hts, hr, hlk, hK, hN, hA, hX⟩ := id C
  unfold b_X5_isCell_0 at h
  refine lv_iload_n hx hb dX5_isCell_0 rfl (lv_at hl 0 rfl) ?_
  refine lv_if_lt (tgt := 14) hx hb dX5_isCell_1 (by decide) (fun c1 => ?_) (fun c1 => ?_)
  · replace h := it_t c1 h
    refine lv_iconst (v := 0) hx hb dX5_isCell_14 (by decide) ?_
    exact rt_z (r := false) C hP hD hS dX5_isCell_15 ⟨Option.some.inj h, rfl⟩
  · replace h := it_f c1 h
    refine lv_iload_n hx hb dX5_isCell_4 rfl (lv_at hl 0 rfl) ?_
    refine lv_bipush (v := 64) hx hb dX5_isCell_5 (by decide) ?_
    refine lv_icmp_ge (tgt := 14) hx hb dX5_isCell_7 (by decide) (fun c7 => ?_) (fun c7 => ?_)
    · replace h := it_t c7 h
      refine lv_iconst (v := 0) hx hb dX5_isCell_14 (by decide) ?_
      exact rt_z (r := false) C hP hD hS dX5_isCell_15 ⟨Option.some.inj h, rfl⟩
    · replace h := it_f c7 h
      refine lv_iconst (v := 1) hx hb dX5_isCell_10 (by decide) ?_
      refine lv_goto (tgt := 15) hx hb dX5_isCell_11 (by decide) ?_
      exact rt_z (r := true) C hP hD hS dX5_isCell_15 ⟨Option.some.inj h, rfl⟩
def f_X5_isCell (x0 : Int32) (M : Mem) : Option (Bool) := b_X5_isCell_0 M x0
theorem c_X5_isCell {l : Launch} {D : va_G} {cy : Nat → ClassId} {ad : Nat → Nat} {zz : (Nat → Nat) × (Nat → Nat)} {x0 : Int32} {M : Mem} {rr : Bool} (h : f_X5_isCell x0 M = some rr) : CTi l D cy ad zz 0 82 yX5_isCell (.code yX5_isCell cX5_isCell 1 (some .boolean) :: tb) ({ frames := 0, cells := 0, slots := 0, locals := 0 } : Room) [.int x0] M (b2i rr) M := by
  intro sz
  refine CX.of (by decide +kernel) (fun p e s m args below meth c H ls C hP hD hS hl => ?_) (Nat.le_of_ble_eq_true rfl)
  exact w_X5_isCell_0 C hP hD hS hl h
theorem es_X5_isCell : yX5_isCell.cls ≠ "java/lang/invoke/MethodHandle" ∧ yX5_isCell.cls ≠ "java/lang/invoke/VarHandle" ∧ (parseMethodDescriptor yX5_isCell.desc).map (fun d => d.parameters.length) = some 1 := by decide +kernel
def b_X5_flood_41 (x1 : Int32) (x2 : Int32) (t0 : Int32) (M : Mem) : Option (Int32 × Mem) := (if t0 = x2 then some (t0, M) else some (t0, (sFJ M 1 0 ((FJ M 1 0) ^^^ ((1 : Int64) <<< (x1.toInt64 &&& 63))))))
set_option maxHeartbeats 4000000 in
set_option maxRecDepth 100000 in
theorem w_X5_flood_41 (C : CX p s m args meth c cX5_flood 4 (some .int) RX5 D cy ad zz 0 82 A) {M : Mem} {x1 : Int32} {x2 : Int32} {rr : Int32} {M' : Mem} {t0 : Int32} {H : Heap} {locs : List Loc} (hP : va_P D vwCl (pool cy ad 0 82 M) H) (hD : va_D A (pool cy ad 0 82 M)) (hS : va_S A s.heap H locs) {ls : Array Slot} (hl : lv_has ls 4 [(0, .ref (ad 0)), (1, .int x1), (2, .int x2)]) (h : b_X5_flood_41 x1 x2 t0 M = some (rr, M')) : W p l e ({ frames := 1, cells := 0, slots := 0, locals := 22 } : Room) s m args below meth c H locs 0 0 (MQ below (va_Qi (fun (x : Int32) (_ : Unit) => x = rr) (fun _ t => PA D cy ad 0 82 A M' t) A) args s 0 0 A) (F0 m 41 ls [.int t0]) := by
  obtain ⟨hx, hb, hml, hown, hts, hr, hlk, hK, hN, hA, hX⟩ := id C
  unfold b_X5_flood_41 at h
  refine lv_istore_n (lv' := [(3, .int t0), (0, .ref (ad 0)), (1, .int x1), (2, .int x2)]) hx hb dX5_flood_41 rfl hl (by decide) rfl (fun ls hl => ?_)
  refine lv_iload_n hx hb dX5_flood_42 rfl (lv_at hl 0 rfl) ?_
  refine lv_iload_n hx hb dX5_flood_43 rfl (lv_at hl 3 rfl) ?_
  refine lv_icmp_eq (tgt := 62) hx hb dX5_flood_44 (by decide) (fun c44 => ?_) (fun c44 => ?_)
  · replace h := it_t c44 h
    refine lv_iload_n hx hb dX5_flood_62 rfl (lv_at hl 0 rfl) ?_
    exact rt_i (r := t0) C hP hD hS dX5_flood_63 (rw_end h)
  · replace h := it_f c44 h
    refine lv_aload_n hx hb dX5_flood_47 rfl (lv_at hl 1 rfl) ?_
    refine gf_5_0 C hP (iL (by decide)) (by decide) wd_374 dX5_flood_48 ?_
    refine lv_dup hx hb dX5_flood_51 rfl ?_
    refine gf_4_0 C hP (iL (by decide)) (by decide) wd_143 dX5_flood_52 ?_
    refine lv_lconst (v := 1) hx hb dX5_flood_55 (by decide) ?_
    refine lv_iload_n hx hb dX5_flood_56 rfl (lv_at hl 2 rfl) ?_
    refine lv_lshl (v := ((1 : Int64) <<< (x1.toInt64 &&& 63))) hx hb dX5_flood_57 rfl ?_
    refine lv_lxor hx hb dX5_flood_58 ?_
    refine pf_4_0 C hP hD hS (iL (by decide)) (by decide) wd_143 dX5_flood_59 (fun H locs hP hD hS => ?_)
    refine lv_iload_n hx hb dX5_flood_62 rfl (lv_at hl 0 rfl) ?_
    exact rt_i (r := t0) C hP hD hS dX5_flood_63 (rw_end h)
def b_X5_flood_22 (x1 : Int32) (x2 : Int32) (M : Mem) : Option (Int32 × Mem) := (f_X5_hasWater (FJ M 1 0) x1 M).bind fun r30 => (if r30 = true then b_X5_flood_41 x1 x2 (1 : Int32) M else b_X5_flood_41 x1 x2 (0 : Int32) M)
set_option maxHeartbeats 4000000 in
set_option maxRecDepth 100000 in
theorem w_X5_flood_22 (C : CX p s m args meth c cX5_flood 4 (some .int) RX5 D cy ad zz 0 82 A) {M : Mem} {x1 : Int32} {x2 : Int32} {rr : Int32} {M' : Mem} {H : Heap} {locs : List Loc} (hP : va_P D vwCl (pool cy ad 0 82 M) H) (hD : va_D A (pool cy ad 0 82 M)) (hS : va_S A s.heap H locs) {ls : Array Slot} (hl : lv_has ls 4 [(0, .ref (ad 0)), (1, .int x1), (2, .int x2)]) (h : b_X5_flood_22 x1 x2 M = some (rr, M')) : W p l e ({ frames := 1, cells := 0, slots := 0, locals := 22 } : Room) s m args below meth c H locs 0 0 (MQ below (va_Qi (fun (x : Int32) (_ : Unit) => x = rr) (fun _ t => PA D cy ad 0 82 A M' t) A) args s 0 0 A) (F0 m 22 ls []) := by
  obtain ⟨hx, hb, hml, hown, hts, hr, hlk, hK, hN, hA, hX⟩ := id C
  unfold b_X5_flood_22 at h
  refine lv_aload_n hx hb dX5_flood_22 rfl (lv_at hl 0 rfl) ?_
  refine gf_5_0 C hP (iL (by decide)) (by decide) wd_374 dX5_flood_23 ?_
  refine gf_4_0 C hP (iL (by decide)) (by decide) wd_143 dX5_flood_26 ?_
  refine lv_iload_n hx hb dX5_flood_29 rfl (lv_at hl 1 rfl) ?_
  obtain ⟨r30, g30, h⟩ := bd_of h
  refine call_iS (As := [.long (FJ M 1 0), .int x1]) (rest := []) C hP hD hS (c_X5_hasWater g30) (gS wd_429 wd_430 wd_64 wd_431) es_X5_hasWater ⟨rfl, rfl⟩ ⟨Nat.le_of_ble_eq_true rfl, Nat.le_of_ble_eq_true rfl⟩ hl.1 rfl (Nat.le_of_ble_eq_true rfl) dX5_flood_30 (fun H locs hP hD hS => ?_)
  refine lv_if_eq (tgt := 40) hx hb dX5_flood_33 (by decide) (fun c33 => ?_) (fun c33 => ?_)
  · replace h := it_f (b2i_n c33) h
    refine lv_iconst (v := 0) hx hb dX5_flood_40 (by decide) ?_
    exact w_X5_flood_41 C hP hD hS hl h
  · replace h := it_t (b2i_1 c33) h
    refine lv_iconst (v := 1) hx hb dX5_flood_36 (by decide) ?_
    refine lv_goto (tgt := 41) hx hb dX5_flood_37 (by decide) ?_
    exact w_X5_flood_41 C hP hD hS hl h
def b_X5_flood_0 (x1 : Int32) (x2 : Int32) (M : Mem) : Option (Int32 × Mem) := (f_X5_isCell x1 M).bind fun r1 => (if r1 = true then (if x2 = 0 then b_X5_flood_22 x1 x2 M else (if x2 = (1 : Int32) then b_X5_flood_22 x1 x2 M else some ((-7 : Int32), M))) else some ((-5 : Int32), M))
set_option maxHeartbeats 4000000 in
set_option maxRecDepth 100000 in
theorem w_X5_flood_0 (C : CX p s m args meth c cX5_flood 4 (some .int) RX5 D cy ad zz 0 82 A) {M : Mem} {x1 : Int32} {x2 : Int32} {rr : Int32} {M' : Mem} {H : Heap} {locs : List Loc} (hP : va_P D vwCl (pool cy ad 0 82 M) H) (hD : va_D A (pool cy ad 0 82 M)) (hS : va_S A s.heap H locs) {ls : Array Slot} (hl : lv_has ls 4 [(0, .ref (ad 0)), (1, .int x1), (2, .int x2)]) (h : b_X5_flood_0 x1 x2 M = some (rr, M')) : W p l e ({ frames := 1, cells := 0, slots := 0, locals := 22 } : Room) s m args below meth c H locs 0 0 (MQ below (va_Qi (fun (x : Int32) (_ : Unit) => x = rr) (fun _ t => PA D cy ad 0 82 A M' t) A) args s 0 0 A) (F0 m 0 ls []) := by
  obtain ⟨hx, hb, hml, hown, hts, hr, hlk, hK, hN, hA, hX⟩ := id C
  unfold b_X5_flood_0 at h
  refine lv_iload_n hx hb dX5_flood_0 rfl (lv_at hl 1 rfl) ?_
  obtain ⟨r1, g1, h⟩ := bd_of h
  refine call_iS (As := [.int x1]) (rest := []) C hP hD hS (c_X5_isCell g1) (gS wd_426 wd_427 wd_64 wd_428) es_X5_isCell ⟨rfl, rfl⟩ ⟨Nat.le_of_ble_eq_true rfl, Nat.le_of_ble_eq_true rfl⟩ hl.1 rfl (Nat.le_of_ble_eq_true rfl) dX5_flood_1 (fun H locs hP hD hS => ?_)
  refine lv_if_ne (tgt := 10) hx hb dX5_flood_4 (by decide) (fun c4 => ?_) (fun c4 => ?_)
  · replace h := it_t (b2i_1 c4) h
    refine lv_iload_n hx hb dX5_flood_10 rfl (lv_at hl 2 rfl) ?_
    refine lv_if_eq (tgt := 22) hx hb dX5_flood_11 (by decide) (fun c11 => ?_) (fun c11 => ?_)
    · replace h := it_t c11 h
      exact w_X5_flood_22 C hP hD hS hl h
    · replace h := it_f c11 h
      refine lv_iload_n hx hb dX5_flood_14 rfl (lv_at hl 2 rfl) ?_
      refine lv_iconst (v := 1) hx hb dX5_flood_15 (by decide) ?_
      refine lv_icmp_eq (tgt := 22) hx hb dX5_flood_16 (by decide) (fun c16 => ?_) (fun c16 => ?_)
      · replace h := it_t c16 h
        exact w_X5_flood_22 C hP hD hS hl h
      · replace h := it_f c16 h
        refine lv_bipush (v := -7) hx hb dX5_flood_19 (by decide) ?_
        exact rt_i (r := (-7 : Int32)) C hP hD hS dX5_flood_21 (rw_end h)
  · replace h := it_f (b2i_n c4) h
    refine lv_bipush (v := -5) hx hb dX5_flood_7 (by decide) ?_
    exact rt_i (r := (-5 : Int32)) C hP hD hS dX5_flood_9 (rw_end h)
def f_X5_flood (x1 : Int32) (x2 : Int32) (M : Mem) : Option (Int32 × Mem) := b_X5_flood_0 x1 x2 M
theorem c_X5_flood {l : Launch} {D : va_G} {cy : Nat → ClassId} {ad : Nat → Nat} {zz : (Nat → Nat) × (Nat → Nat)} {x1 : Int32} {x2 : Int32} {M : Mem} {rr : Int32} {M' : Mem} (h : f_X5_flood x1 x2 M = some (rr, M')) : CTi l D cy ad zz 0 82 yX5_flood (.code yX5_flood cX5_flood 4 (some .int) :: tb) ({ frames := 1, cells := 0, slots := 0, locals := 22 } : Room) [.ref (ad 0), .int x1, .int x2] M rr M' := by
  intro sz
  refine CX.of (by decide +kernel) (fun p e s m args below meth c H ls C hP hD hS hl => ?_) (Nat.le_of_ble_eq_true rfl)
  exact w_X5_flood_0 C hP hD hS hl h
theorem ev_X5_flood : yX5_flood.cls = RX5 ∧ yX5_flood.cls ≠ "java/lang/invoke/MethodHandle" ∧ yX5_flood.cls ≠ "java/lang/invoke/VarHandle" ∧ (parseMethodDescriptor yX5_flood.desc).map (fun d => d.parameters.length) = some 2 := by decide +kernel
def b_X5_isByte_0 (M : Mem) (x0 : Int32) : Option (Bool) := (if x0 < 0 then some false else (if (255 : Int32) < x0 then some false else some true))
set_option maxHeartbeats 4000000 in
set_option maxRecDepth 100000 in
theorem w_X5_isByte_0 (C : CX p s m args meth c cX5_isByte 1 (some .boolean) RX5 D cy ad zz 0 82 A) {M : Mem} {x0 : Int32} {rr : Bool} {H : Heap} {locs : List Loc} (hP : va_P D vwCl (pool cy ad 0 82 M) H) (hD : va_D A (pool cy ad 0 82 M)) (hS : va_S A s.heap H locs) {ls : Array Slot} (hl : lv_has ls 1 [(0, .int x0)]) (h : b_X5_isByte_0 M x0 = some rr) : W p l e ({ frames := 0, cells := 0, slots := 0, locals := 0 } : Room) s m args below meth c H locs 0 0 (MQ below (va_Qi (fun (x : Int32) (_ : Unit) => x = b2i rr) (fun _ t => PA D cy ad 0 82 A M t) A) args s 0 0 A) (F0 m 0 ls []) := by
  obtain ⟨hx, hb, hml, hown, hts, hr, hlk, hK, hN, hA, hX⟩ := id C
  unfold b_X5_isByte_0 at h
  refine lv_iload_n hx hb dX5_isByte_0 rfl (lv_at hl 0 rfl) ?_
  refine lv_if_lt (tgt := 15) hx hb dX5_isByte_1 (by decide) (fun c1 => ?_) (fun c1 => ?_)
  · replace h := it_t c1 h
    refine lv_iconst (v := 0) hx hb dX5_isByte_15 (by decide) ?_
    exact rt_z (r := false) C hP hD hS dX5_isByte_16 ⟨Option.some.inj h, rfl⟩
  · replace h := it_f c1 h
    refine lv_iload_n hx hb dX5_isByte_4 rfl (lv_at hl 0 rfl) ?_
    refine lv_sipush (v := 255) hx hb dX5_isByte_5 (by decide) ?_
    refine lv_icmp_gt (tgt := 15) hx hb dX5_isByte_8 (by decide) (fun c8 => ?_) (fun c8 => ?_)
    · replace h := it_t c8 h
      refine lv_iconst (v := 0) hx hb dX5_isByte_15 (by decide) ?_
      exact rt_z (r := false) C hP hD hS dX5_isByte_16 ⟨Option.some.inj h, rfl⟩
    · replace h := it_f c8 h
      refine lv_iconst (v := 1) hx hb dX5_isByte_11 (by decide) ?_
      refine lv_goto (tgt := 16) hx hb dX5_isByte_12 (by decide) ?_
      exact rt_z (r := true) C hP hD hS dX5_isByte_16 ⟨Option.some.inj h, rfl⟩
def f_X5_isByte (x0 : Int32) (M : Mem) : Option (Bool) := b_X5_isByte_0 M x0
theorem c_X5_isByte {l : Launch} {D : va_G} {cy : Nat → ClassId} {ad : Nat → Nat} {zz : (Nat → Nat) × (Nat → Nat)} {x0 : Int32} {M : Mem} {rr : Bool} (h : f_X5_isByte x0 M = some rr) : CTi l D cy ad zz 0 82 yX5_isByte (.code yX5_isByte cX5_isByte 1 (some .boolean) :: tb) ({ frames := 0, cells := 0, slots := 0, locals := 0 } : Room) [.int x0] M (b2i rr) M := by
  intro sz
  refine CX.of (by decide +kernel) (fun p e s m args below meth c H ls C hP hD hS hl => ?_) (Nat.le_of_ble_eq_true rfl)
  exact w_X5_isByte_0 C hP hD hS hl h
theorem es_X5_isByte : yX5_isByte.cls ≠ "java/lang/invoke/MethodHandle" ∧ yX5_isByte.cls ≠ "java/lang/invoke/VarHandle" ∧ (parseMethodDescriptor yX5_isByte.desc).map (fun d => d.parameters.length) = some 1 := by decide +kernel
def b_X5_feedOne_27 (x1 : Int32) (M : Mem) : Option (Mem) := some (sFI M 0 9 ((FI M 0 9) + (1 : Int32)))
set_option maxHeartbeats 4000000 in
set_option maxRecDepth 100000 in
theorem w_X5_feedOne_27 (C : CX p s m args meth c cX5_feedOne 2 none RX5 D cy ad zz 0 82 A) {M : Mem} {x1 : Int32} {M' : Mem} {H : Heap} {locs : List Loc} (hP : va_P D vwCl (pool cy ad 0 82 M) H) (hD : va_D A (pool cy ad 0 82 M)) (hS : va_S A s.heap H locs) {ls : Array Slot} (hl : lv_has ls 2 [(0, .ref (ad 0))]) (h : b_X5_feedOne_27 x1 M = some M') : W p l e ({ frames := 0, cells := 0, slots := 0, locals := 0 } : Room) s m args below meth c H locs 0 0 (MQ below (va_Qv (fun (_ : Unit) => True) (fun _ t => PA D cy ad 0 82 A M' t) A) args s 0 0 A) (F0 m 27 ls []) := by
  obtain ⟨hx, hb, hml, hown, hts, hr, hlk, hK, hN, hA, hX⟩ := id C
  unfold b_X5_feedOne_27 at h
  refine lv_aload_n hx hb dX5_feedOne_27 rfl (lv_at hl 0 rfl) ?_
  refine lv_dup hx hb dX5_feedOne_28 rfl ?_
  refine gf_5_9 C hP (iL (by decide)) (by decide) wd_383 dX5_feedOne_29 ?_
  refine lv_iconst (v := 1) hx hb dX5_feedOne_32 (by decide) ?_
  refine lv_iadd hx hb dX5_feedOne_33 ?_
  refine pf_5_9 C hP hD hS (iL (by decide)) (by decide) wd_383 dX5_feedOne_34 (fun H locs hP hD hS => ?_)
  exact rt_v C hP hD hS dX5_feedOne_37 (Option.some.inj h)
def b_X5_feedOne_0 (x1 : Int32) (M : Mem) : Option (Mem) := (if (FI M 0 9) < 0 then some M else (if (160 : Int32) ≤ (FI M 0 9) then some M else gd (inb (FI M 0 9) (len 71)) (b_X5_feedOne_27 x1 (sAI M 71 (FI M 0 9).toNatClampNeg x1))))
set_option maxHeartbeats 4000000 in
set_option maxRecDepth 100000 in
theorem w_X5_feedOne_0 (C : CX p s m args meth c cX5_feedOne 2 none RX5 D cy ad zz 0 82 A) {M : Mem} {x1 : Int32} {M' : Mem} {H : Heap} {locs : List Loc} (hP : va_P D vwCl (pool cy ad 0 82 M) H) (hD : va_D A (pool cy ad 0 82 M)) (hS : va_S A s.heap H locs) {ls : Array Slot} (hl : lv_has ls 2 [(0, .ref (ad 0)), (1, .int x1)]) (h : b_X5_feedOne_0 x1 M = some M') : W p l e ({ frames := 0, cells := 0, slots := 0, locals := 0 } : Room) s m args below meth c H locs 0 0 (MQ below (va_Qv (fun (_ : Unit) => True) (fun _ t => PA D cy ad 0 82 A M' t) A) args s 0 0 A) (F0 m 0 ls []) := by
  obtain ⟨hx, hb, hml, hown, hts, hr, hlk, hK, hN, hA, hX⟩ := id C
  unfold b_X5_feedOne_0 at h
  refine lv_aload_n hx hb dX5_feedOne_0 rfl (lv_at hl 0 rfl) ?_
  refine gf_5_9 C hP (iL (by decide)) (by decide) wd_383 dX5_feedOne_1 ?_
  refine lv_if_lt (tgt := 37) hx hb dX5_feedOne_4 (by decide) (fun c4 => ?_) (fun c4 => ?_)
  · replace h := it_t c4 h
    exact rt_v C hP hD hS dX5_feedOne_37 (Option.some.inj h)
  · replace h := it_f c4 h
    refine lv_aload_n hx hb dX5_feedOne_7 rfl (lv_at hl 0 rfl) ?_
    refine gf_5_9 C hP (iL (by decide)) (by decide) wd_383 dX5_feedOne_8 ?_
    refine lv_sipush (v := 160) hx hb dX5_feedOne_11 (by decide) ?_
    refine lv_icmp_ge (tgt := 37) hx hb dX5_feedOne_14 (by decide) (fun c14 => ?_) (fun c14 => ?_)
    · replace h := it_t c14 h
      exact rt_v C hP hD hS dX5_feedOne_37 (Option.some.inj h)
    · replace h := it_f c14 h
      refine lv_aload_n hx hb dX5_feedOne_17 rfl (lv_at hl 0 rfl) ?_
      refine gf_5_5 C hP (iL (by decide)) (by decide) wd_379 dX5_feedOne_18 ?_
      refine lv_aload_n hx hb dX5_feedOne_21 rfl (lv_at hl 0 rfl) ?_
      refine gf_5_9 C hP (iL (by decide)) (by decide) wd_383 dX5_feedOne_22 ?_
      refine lv_iload_n hx hb dX5_feedOne_25 rfl (lv_at hl 1 rfl) ?_
      obtain ⟨gi1, h⟩ := gd_of h
      refine ia_st C hP hD hS (iL (by decide)) (by decide) gi1 dX5_feedOne_26 (fun H locs hP hD hS => ?_)
      exact w_X5_feedOne_27 C hP hD hS (lv_sub hl [0] rfl) h
def f_X5_feedOne (x1 : Int32) (M : Mem) : Option (Mem) := b_X5_feedOne_0 x1 M
theorem c_X5_feedOne {l : Launch} {D : va_G} {cy : Nat → ClassId} {ad : Nat → Nat} {zz : (Nat → Nat) × (Nat → Nat)} {x1 : Int32} {M : Mem} {M' : Mem} (h : f_X5_feedOne x1 M = some M') : CTv l D cy ad zz 0 82 yX5_feedOne (.code yX5_feedOne cX5_feedOne 2 none :: tb) ({ frames := 0, cells := 0, slots := 0, locals := 0 } : Room) [.ref (ad 0), .int x1] M M' := by
  intro sz
  refine CX.of (by decide +kernel) (fun p e s m args below meth c H ls C hP hD hS hl => ?_) (Nat.le_of_ble_eq_true rfl)
  exact w_X5_feedOne_0 C hP hD hS hl h
theorem ev_X5_feedOne : yX5_feedOne.cls = RX5 ∧ yX5_feedOne.cls ≠ "java/lang/invoke/MethodHandle" ∧ yX5_feedOne.cls ≠ "java/lang/invoke/VarHandle" ∧ (parseMethodDescriptor yX5_feedOne.desc).map (fun d => d.parameters.length) = some 1 := by decide +kernel
def b_X5_feed_114 (x1 : Int32) (x2 : Int32) (x3 : Int32) (x4 : Int32) (x5 : Int32) (x6 : Int32) (M : Mem) : Option (Int32 × Mem) := some ((FI M 0 9), M)
set_option maxHeartbeats 4000000 in
set_option maxRecDepth 100000 in
theorem w_X5_feed_114 (C : CX p s m args meth c cX5_feed 7 (some .int) RX5 D cy ad zz 0 82 A) {M : Mem} {x1 : Int32} {x2 : Int32} {x3 : Int32} {x4 : Int32} {x5 : Int32} {x6 : Int32} {rr : Int32} {M' : Mem} {H : Heap} {locs : List Loc} (hP : va_P D vwCl (pool cy ad 0 82 M) H) (hD : va_D A (pool cy ad 0 82 M)) (hS : va_S A s.heap H locs) {ls : Array Slot} (hl : lv_has ls 7 [(0, .ref (ad 0))]) (h : b_X5_feed_114 x1 x2 x3 x4 x5 x6 M = some (rr, M')) : W p l e ({ frames := 1, cells := 0, slots := 0, locals := 21 } : Room) s m args below meth c H locs 0 0 (MQ below (va_Qi (fun (x : Int32) (_ : Unit) => x = rr) (fun _ t => PA D cy ad 0 82 A M' t) A) args s 0 0 A) (F0 m 114 ls []) := by
  obtain ⟨hx, hb, hml, hown, hts, hr, hlk, hK, hN, hA, hX⟩ := id C
  unfold b_X5_feed_114 at h
  refine lv_aload_n hx hb dX5_feed_114 rfl (lv_at hl 0 rfl) ?_
  refine gf_5_9 C hP (iL (by decide)) (by decide) wd_383 dX5_feed_115 ?_
  exact rt_i (r := (FI M 0 9)) C hP hD hS dX5_feed_118 (rw_end h)
def b_X5_feed_103 (x1 : Int32) (x2 : Int32) (x3 : Int32) (x4 : Int32) (x5 : Int32) (x6 : Int32) (M : Mem) : Option (Int32 × Mem) := (if x1 ≤ (4 : Int32) then b_X5_feed_114 x1 x2 x3 x4 x5 x6 M else (f_X5_feedOne x6 M).bind fun M111 => b_X5_feed_114 x1 x2 x3 x4 x5 x6 M111)
set_option maxHeartbeats 4000000 in
set_option maxRecDepth 100000 in
theorem w_X5_feed_103 (C : CX p s m args meth c cX5_feed 7 (some .int) RX5 D cy ad zz 0 82 A) {M : Mem} {x1 : Int32} {x2 : Int32} {x3 : Int32} {x4 : Int32} {x5 : Int32} {x6 : Int32} {rr : Int32} {M' : Mem} {H : Heap} {locs : List Loc} (hP : va_P D vwCl (pool cy ad 0 82 M) H) (hD : va_D A (pool cy ad 0 82 M)) (hS : va_S A s.heap H locs) {ls : Array Slot} (hl : lv_has ls 7 [(0, .ref (ad 0)), (1, .int x1), (6, .int x6)]) (h : b_X5_feed_103 x1 x2 x3 x4 x5 x6 M = some (rr, M')) : W p l e ({ frames := 1, cells := 0, slots := 0, locals := 21 } : Room) s m args below meth c H locs 0 0 (MQ below (va_Qi (fun (x : Int32) (_ : Unit) => x = rr) (fun _ t => PA D cy ad 0 82 A M' t) A) args s 0 0 A) (F0 m 103 ls []) := by
  obtain ⟨hx, hb, hml, hown, hts, hr, hlk, hK, hN, hA, hX⟩ := id C
  unfold b_X5_feed_103 at h
  refine lv_iload_n hx hb dX5_feed_103 rfl (lv_at hl 1 rfl) ?_
  refine lv_iconst (v := 4) hx hb dX5_feed_104 (by decide) ?_
  refine lv_icmp_le (tgt := 114) hx hb dX5_feed_105 (by decide) (fun c105 => ?_) (fun c105 => ?_)
  · replace h := it_t c105 h
    exact w_X5_feed_114 C hP hD hS (lv_sub hl [0] rfl) h
  · replace h := it_f c105 h
    refine lv_aload_n hx hb dX5_feed_108 rfl (lv_at hl 0 rfl) ?_
    refine lv_iload hx hb dX5_feed_109 (lv_at hl 2 rfl) ?_
    obtain ⟨M111, g111, h⟩ := bd_of h
    refine call_vV (As := [.int x6]) (rest := []) C hP hD hS (c_X5_feedOne g111) (iL (by decide)) ⟨5, _, _, ent_5 (by decide), rfl, rfl⟩ (gV wd_439 wd_441 wd_12 wd_64 wd_442) ev_X5_feedOne ⟨rfl, rfl⟩ ⟨Nat.le_of_ble_eq_true rfl, Nat.le_of_ble_eq_true rfl⟩ hl.1 rfl (Nat.le_of_ble_eq_true rfl) dX5_feed_111 (fun H locs hP hD hS => ?_)
    exact w_X5_feed_114 C hP hD hS (lv_sub hl [0] rfl) h
def b_X5_feed_92 (x1 : Int32) (x2 : Int32) (x3 : Int32) (x4 : Int32) (x5 : Int32) (x6 : Int32) (M : Mem) : Option (Int32 × Mem) := (if x1 ≤ (3 : Int32) then b_X5_feed_103 x1 x2 x3 x4 x5 x6 M else (f_X5_feedOne x5 M).bind fun M100 => b_X5_feed_103 x1 x2 x3 x4 x5 x6 M100)
set_option maxHeartbeats 4000000 in
set_option maxRecDepth 100000 in
theorem w_X5_feed_92 (C : CX p s m args meth c cX5_feed 7 (some .int) RX5 D cy ad zz 0 82 A) {M : Mem} {x1 : Int32} {x2 : Int32} {x3 : Int32} {x4 : Int32} {x5 : Int32} {x6 : Int32} {rr : Int32} {M' : Mem} {H : Heap} {locs : List Loc} (hP : va_P D vwCl (pool cy ad 0 82 M) H) (hD : va_D A (pool cy ad 0 82 M)) (hS : va_S A s.heap H locs) {ls : Array Slot} (hl : lv_has ls 7 [(0, .ref (ad 0)), (1, .int x1), (5, .int x5), (6, .int x6)]) (h : b_X5_feed_92 x1 x2 x3 x4 x5 x6 M = some (rr, M')) : W p l e ({ frames := 1, cells := 0, slots := 0, locals := 21 } : Room) s m args below meth c H locs 0 0 (MQ below (va_Qi (fun (x : Int32) (_ : Unit) => x = rr) (fun _ t => PA D cy ad 0 82 A M' t) A) args s 0 0 A) (F0 m 92 ls []) := by
  obtain ⟨hx, hb, hml, hown, hts, hr, hlk, hK, hN, hA, hX⟩ := id C
  unfold b_X5_feed_92 at h
  refine lv_iload_n hx hb dX5_feed_92 rfl (lv_at hl 1 rfl) ?_
  refine lv_iconst (v := 3) hx hb dX5_feed_93 (by decide) ?_
  refine lv_icmp_le (tgt := 103) hx hb dX5_feed_94 (by decide) (fun c94 => ?_) (fun c94 => ?_)
  · replace h := it_t c94 h
    exact w_X5_feed_103 C hP hD hS (lv_sub hl [0, 1, 3] rfl) h
  · replace h := it_f c94 h
    refine lv_aload_n hx hb dX5_feed_97 rfl (lv_at hl 0 rfl) ?_
    refine lv_iload hx hb dX5_feed_98 (lv_at hl 2 rfl) ?_
    obtain ⟨M100, g100, h⟩ := bd_of h
    refine call_vV (As := [.int x5]) (rest := []) C hP hD hS (c_X5_feedOne g100) (iL (by decide)) ⟨5, _, _, ent_5 (by decide), rfl, rfl⟩ (gV wd_439 wd_441 wd_12 wd_64 wd_442) ev_X5_feedOne ⟨rfl, rfl⟩ ⟨Nat.le_of_ble_eq_true rfl, Nat.le_of_ble_eq_true rfl⟩ hl.1 rfl (Nat.le_of_ble_eq_true rfl) dX5_feed_100 (fun H locs hP hD hS => ?_)
    exact w_X5_feed_103 C hP hD hS (lv_sub hl [0, 1, 3] rfl) h
def b_X5_feed_81 (x1 : Int32) (x2 : Int32) (x3 : Int32) (x4 : Int32) (x5 : Int32) (x6 : Int32) (M : Mem) : Option (Int32 × Mem) := (if x1 ≤ (2 : Int32) then b_X5_feed_92 x1 x2 x3 x4 x5 x6 M else (f_X5_feedOne x4 M).bind fun M89 => b_X5_feed_92 x1 x2 x3 x4 x5 x6 M89)
set_option maxHeartbeats 4000000 in
set_option maxRecDepth 100000 in
theorem w_X5_feed_81 (C : CX p s m args meth c cX5_feed 7 (some .int) RX5 D cy ad zz 0 82 A) {M : Mem} {x1 : Int32} {x2 : Int32} {x3 : Int32} {x4 : Int32} {x5 : Int32} {x6 : Int32} {rr : Int32} {M' : Mem} {H : Heap} {locs : List Loc} (hP : va_P D vwCl (pool cy ad 0 82 M) H) (hD : va_D A (pool cy ad 0 82 M)) (hS : va_S A s.heap H locs) {ls : Array Slot} (hl : lv_has ls 7 [(0, .ref (ad 0)), (1, .int x1), (4, .int x4), (5, .int x5), (6, .int x6)]) (h : b_X5_feed_81 x1 x2 x3 x4 x5 x6 M = some (rr, M')) : W p l e ({ frames := 1, cells := 0, slots := 0, locals := 21 } : Room) s m args below meth c H locs 0 0 (MQ below (va_Qi (fun (x : Int32) (_ : Unit) => x = rr) (fun _ t => PA D cy ad 0 82 A M' t) A) args s 0 0 A) (F0 m 81 ls []) := by
  obtain ⟨hx, hb, hml, hown, hts, hr, hlk, hK, hN, hA, hX⟩ := id C
  unfold b_X5_feed_81 at h
  refine lv_iload_n hx hb dX5_feed_81 rfl (lv_at hl 1 rfl) ?_
  refine lv_iconst (v := 2) hx hb dX5_feed_82 (by decide) ?_
  refine lv_icmp_le (tgt := 92) hx hb dX5_feed_83 (by decide) (fun c83 => ?_) (fun c83 => ?_)
  · replace h := it_t c83 h
    exact w_X5_feed_92 C hP hD hS (lv_sub hl [0, 1, 3, 4] rfl) h
  · replace h := it_f c83 h
    refine lv_aload_n hx hb dX5_feed_86 rfl (lv_at hl 0 rfl) ?_
    refine lv_iload hx hb dX5_feed_87 (lv_at hl 2 rfl) ?_
    obtain ⟨M89, g89, h⟩ := bd_of h
    refine call_vV (As := [.int x4]) (rest := []) C hP hD hS (c_X5_feedOne g89) (iL (by decide)) ⟨5, _, _, ent_5 (by decide), rfl, rfl⟩ (gV wd_439 wd_441 wd_12 wd_64 wd_442) ev_X5_feedOne ⟨rfl, rfl⟩ ⟨Nat.le_of_ble_eq_true rfl, Nat.le_of_ble_eq_true rfl⟩ hl.1 rfl (Nat.le_of_ble_eq_true rfl) dX5_feed_89 (fun H locs hP hD hS => ?_)
    exact w_X5_feed_92 C hP hD hS (lv_sub hl [0, 1, 3, 4] rfl) h
def b_X5_feed_0 (x1 : Int32) (x2 : Int32) (x3 : Int32) (x4 : Int32) (x5 : Int32) (x6 : Int32) (M : Mem) : Option (Int32 × Mem) := (if x1 < (1 : Int32) then some ((-2 : Int32), M) else (if (5 : Int32) < x1 then some ((-2 : Int32), M) else (f_X5_isByte x2 M).bind fun r11 => (if r11 = true then (f_X5_isByte x3 M).bind fun r18 => (if r18 = true then (f_X5_isByte x4 M).bind fun r26 => (if r26 = true then (f_X5_isByte x5 M).bind fun r34 => (if r34 = true then (f_X5_isByte x6 M).bind fun r42 => (if r42 = true then (if ((FI M 0 9) + x1) ≤ (160 : Int32) then (f_X5_feedOne x2 M).bind fun M68 => (if x1 ≤ (1 : Int32) then b_X5_feed_81 x1 x2 x3 x4 x5 x6 M68 else (f_X5_feedOne x3 M68).bind fun M78 => b_X5_feed_81 x1 x2 x3 x4 x5 x6 M78) else some ((-4 : Int32), M)) else some ((-2 : Int32), M)) else some ((-2 : Int32), M)) else some ((-2 : Int32), M)) else some ((-2 : Int32), M)) else some ((-2 : Int32), M))))
set_option maxHeartbeats 4000000 in
set_option maxRecDepth 100000 in
theorem w_X5_feed_0 (C : CX p s m args meth c cX5_feed 7 (some .int) RX5 D cy ad zz 0 82 A) {M : Mem} {x1 : Int32} {x2 : Int32} {x3 : Int32} {x4 : Int32} {x5 : Int32} {x6 : Int32} {rr : Int32} {M' : Mem} {H : Heap} {locs : List Loc} (hP : va_P D vwCl (pool cy ad 0 82 M) H) (hD : va_D A (pool cy ad 0 82 M)) (hS : va_S A s.heap H locs) {ls : Array Slot} (hl : lv_has ls 7 [(0, .ref (ad 0)), (1, .int x1), (2, .int x2), (3, .int x3), (4, .int x4), (5, .int x5), (6, .int x6)]) (h : b_X5_feed_0 x1 x2 x3 x4 x5 x6 M = some (rr, M')) : W p l e ({ frames := 1, cells := 0, slots := 0, locals := 21 } : Room) s m args below meth c H locs 0 0 (MQ below (va_Qi (fun (x : Int32) (_ : Unit) => x = rr) (fun _ t => PA D cy ad 0 82 A M' t) A) args s 0 0 A) (F0 m 0 ls []) := by
  obtain ⟨hx, hb, hml, hown, hts, hr, hlk, hK, hN, hA, hX⟩ := id C
  unfold b_X5_feed_0 at h
  refine lv_iload_n hx hb dX5_feed_0 rfl (lv_at hl 1 rfl) ?_
  refine lv_iconst (v := 1) hx hb dX5_feed_1 (by decide) ?_
  refine lv_icmp_lt (tgt := 48) hx hb dX5_feed_2 (by decide) (fun c2 => ?_) (fun c2 => ?_)
  · replace h := it_t c2 h
    refine lv_bipush (v := -2) hx hb dX5_feed_48 (by decide) ?_
    exact rt_i (r := (-2 : Int32)) C hP hD hS dX5_feed_50 (rw_end h)
  · replace h := it_f c2 h
    refine lv_iload_n hx hb dX5_feed_5 rfl (lv_at hl 1 rfl) ?_
    refine lv_iconst (v := 5) hx hb dX5_feed_6 (by decide) ?_
    refine lv_icmp_gt (tgt := 48) hx hb dX5_feed_7 (by decide) (fun c7 => ?_) (fun c7 => ?_)
    · replace h := it_t c7 h
      refine lv_bipush (v := -2) hx hb dX5_feed_48 (by decide) ?_
      exact rt_i (r := (-2 : Int32)) C hP hD hS dX5_feed_50 (rw_end h)
    · replace h := it_f c7 h
      refine lv_iload_n hx hb dX5_feed_10 rfl (lv_at hl 2 rfl) ?_
      obtain ⟨r11, g11, h⟩ := bd_of h
      refine call_iS (As := [.int x2]) (rest := []) C hP hD hS (c_X5_isByte g11) (gS wd_436 wd_437 wd_64 wd_438) es_X5_isByte ⟨rfl, rfl⟩ ⟨Nat.le_of_ble_eq_true rfl, Nat.le_of_ble_eq_true rfl⟩ hl.1 rfl (Nat.le_of_ble_eq_true rfl) dX5_feed_11 (fun H locs hP hD hS => ?_)
      refine lv_if_eq (tgt := 48) hx hb dX5_feed_14 (by decide) (fun c14 => ?_) (fun c14 => ?_)
      · replace h := it_f (b2i_n c14) h
        refine lv_bipush (v := -2) hx hb dX5_feed_48 (by decide) ?_
        exact rt_i (r := (-2 : Int32)) C hP hD hS dX5_feed_50 (rw_end h)
      · replace h := it_t (b2i_1 c14) h
        refine lv_iload_n hx hb dX5_feed_17 rfl (lv_at hl 3 rfl) ?_
        obtain ⟨r18, g18, h⟩ := bd_of h
        refine call_iS (As := [.int x3]) (rest := []) C hP hD hS (c_X5_isByte g18) (gS wd_436 wd_437 wd_64 wd_438) es_X5_isByte ⟨rfl, rfl⟩ ⟨Nat.le_of_ble_eq_true rfl, Nat.le_of_ble_eq_true rfl⟩ hl.1 rfl (Nat.le_of_ble_eq_true rfl) dX5_feed_18 (fun H locs hP hD hS => ?_)
        refine lv_if_eq (tgt := 48) hx hb dX5_feed_21 (by decide) (fun c21 => ?_) (fun c21 => ?_)
        · replace h := it_f (b2i_n c21) h
          refine lv_bipush (v := -2) hx hb dX5_feed_48 (by decide) ?_
          exact rt_i (r := (-2 : Int32)) C hP hD hS dX5_feed_50 (rw_end h)
        · replace h := it_t (b2i_1 c21) h
          refine lv_iload hx hb dX5_feed_24 (lv_at hl 4 rfl) ?_
          obtain ⟨r26, g26, h⟩ := bd_of h
          refine call_iS (As := [.int x4]) (rest := []) C hP hD hS (c_X5_isByte g26) (gS wd_436 wd_437 wd_64 wd_438) es_X5_isByte ⟨rfl, rfl⟩ ⟨Nat.le_of_ble_eq_true rfl, Nat.le_of_ble_eq_true rfl⟩ hl.1 rfl (Nat.le_of_ble_eq_true rfl) dX5_feed_26 (fun H locs hP hD hS => ?_)
          refine lv_if_eq (tgt := 48) hx hb dX5_feed_29 (by decide) (fun c29 => ?_) (fun c29 => ?_)
          · replace h := it_f (b2i_n c29) h
            refine lv_bipush (v := -2) hx hb dX5_feed_48 (by decide) ?_
            exact rt_i (r := (-2 : Int32)) C hP hD hS dX5_feed_50 (rw_end h)
          · replace h := it_t (b2i_1 c29) h
            refine lv_iload hx hb dX5_feed_32 (lv_at hl 5 rfl) ?_
            obtain ⟨r34, g34, h⟩ := bd_of h
            refine call_iS (As := [.int x5]) (rest := []) C hP hD hS (c_X5_isByte g34) (gS wd_436 wd_437 wd_64 wd_438) es_X5_isByte ⟨rfl, rfl⟩ ⟨Nat.le_of_ble_eq_true rfl, Nat.le_of_ble_eq_true rfl⟩ hl.1 rfl (Nat.le_of_ble_eq_true rfl) dX5_feed_34 (fun H locs hP hD hS => ?_)
            refine lv_if_eq (tgt := 48) hx hb dX5_feed_37 (by decide) (fun c37 => ?_) (fun c37 => ?_)
            · replace h := it_f (b2i_n c37) h
              refine lv_bipush (v := -2) hx hb dX5_feed_48 (by decide) ?_
              exact rt_i (r := (-2 : Int32)) C hP hD hS dX5_feed_50 (rw_end h)
            · replace h := it_t (b2i_1 c37) h
              refine lv_iload hx hb dX5_feed_40 (lv_at hl 6 rfl) ?_
              obtain ⟨r42, g42, h⟩ := bd_of h
              refine call_iS (As := [.int x6]) (rest := []) C hP hD hS (c_X5_isByte g42) (gS wd_436 wd_437 wd_64 wd_438) es_X5_isByte ⟨rfl, rfl⟩ ⟨Nat.le_of_ble_eq_true rfl, Nat.le_of_ble_eq_true rfl⟩ hl.1 rfl (Nat.le_of_ble_eq_true rfl) dX5_feed_42 (fun H locs hP hD hS => ?_)
              refine lv_if_ne (tgt := 51) hx hb dX5_feed_45 (by decide) (fun c45 => ?_) (fun c45 => ?_)
              · replace h := it_t (b2i_1 c45) h
                refine lv_aload_n hx hb dX5_feed_51 rfl (lv_at hl 0 rfl) ?_
                refine gf_5_9 C hP (iL (by decide)) (by decide) wd_383 dX5_feed_52 ?_
                refine lv_iload_n hx hb dX5_feed_55 rfl (lv_at hl 1 rfl) ?_
                refine lv_iadd hx hb dX5_feed_56 ?_
                refine lv_sipush (v := 160) hx hb dX5_feed_57 (by decide) ?_
                refine lv_icmp_le (tgt := 66) hx hb dX5_feed_60 (by decide) (fun c60 => ?_) (fun c60 => ?_)
                · replace h := it_t c60 h
                  refine lv_aload_n hx hb dX5_feed_66 rfl (lv_at hl 0 rfl) ?_
                  refine lv_iload_n hx hb dX5_feed_67 rfl (lv_at hl 2 rfl) ?_
                  obtain ⟨M68, g68, h⟩ := bd_of h
                  refine call_vV (As := [.int x2]) (rest := []) C hP hD hS (c_X5_feedOne g68) (iL (by decide)) ⟨5, _, _, ent_5 (by decide), rfl, rfl⟩ (gV wd_439 wd_441 wd_12 wd_64 wd_442) ev_X5_feedOne ⟨rfl, rfl⟩ ⟨Nat.le_of_ble_eq_true rfl, Nat.le_of_ble_eq_true rfl⟩ hl.1 rfl (Nat.le_of_ble_eq_true rfl) dX5_feed_68 (fun H locs hP hD hS => ?_)
                  refine lv_iload_n hx hb dX5_feed_71 rfl (lv_at hl 1 rfl) ?_
                  refine lv_iconst (v := 1) hx hb dX5_feed_72 (by decide) ?_
                  refine lv_icmp_le (tgt := 81) hx hb dX5_feed_73 (by decide) (fun c73 => ?_) (fun c73 => ?_)
                  · replace h := it_t c73 h
                    exact w_X5_feed_81 C hP hD hS (lv_sub hl [0, 1, 4, 5, 6] rfl) h
                  · replace h := it_f c73 h
                    refine lv_aload_n hx hb dX5_feed_76 rfl (lv_at hl 0 rfl) ?_
                    refine lv_iload_n hx hb dX5_feed_77 rfl (lv_at hl 3 rfl) ?_
                    obtain ⟨M78, g78, h⟩ := bd_of h
                    refine call_vV (As := [.int x3]) (rest := []) C hP hD hS (c_X5_feedOne g78) (iL (by decide)) ⟨5, _, _, ent_5 (by decide), rfl, rfl⟩ (gV wd_439 wd_441 wd_12 wd_64 wd_442) ev_X5_feedOne ⟨rfl, rfl⟩ ⟨Nat.le_of_ble_eq_true rfl, Nat.le_of_ble_eq_true rfl⟩ hl.1 rfl (Nat.le_of_ble_eq_true rfl) dX5_feed_78 (fun H locs hP hD hS => ?_)
                    exact w_X5_feed_81 C hP hD hS (lv_sub hl [0, 1, 4, 5, 6] rfl) h
                · replace h := it_f c60 h
                  refine lv_bipush (v := -4) hx hb dX5_feed_63 (by decide) ?_
                  exact rt_i (r := (-4 : Int32)) C hP hD hS dX5_feed_65 (rw_end h)
              · replace h := it_f (b2i_n c45) h
                refine lv_bipush (v := -2) hx hb dX5_feed_48 (by decide) ?_
                exact rt_i (r := (-2 : Int32)) C hP hD hS dX5_feed_50 (rw_end h)
def f_X5_feed (x1 : Int32) (x2 : Int32) (x3 : Int32) (x4 : Int32) (x5 : Int32) (x6 : Int32) (M : Mem) : Option (Int32 × Mem) := b_X5_feed_0 x1 x2 x3 x4 x5 x6 M
theorem c_X5_feed {l : Launch} {D : va_G} {cy : Nat → ClassId} {ad : Nat → Nat} {zz : (Nat → Nat) × (Nat → Nat)} {x1 : Int32} {x2 : Int32} {x3 : Int32} {x4 : Int32} {x5 : Int32} {x6 : Int32} {M : Mem} {rr : Int32} {M' : Mem} (h : f_X5_feed x1 x2 x3 x4 x5 x6 M = some (rr, M')) : CTi l D cy ad zz 0 82 yX5_feed (.code yX5_feed cX5_feed 7 (some .int) :: tb) ({ frames := 1, cells := 0, slots := 0, locals := 21 } : Room) [.ref (ad 0), .int x1, .int x2, .int x3, .int x4, .int x5, .int x6] M rr M' := by
  intro sz
  refine CX.of (by decide +kernel) (fun p e s m args below meth c H ls C hP hD hS hl => ?_) (Nat.le_of_ble_eq_true rfl)
  exact w_X5_feed_0 C hP hD hS hl h
theorem ev_X5_feed : yX5_feed.cls = RX5 ∧ yX5_feed.cls ≠ "java/lang/invoke/MethodHandle" ∧ yX5_feed.cls ≠ "java/lang/invoke/VarHandle" ∧ (parseMethodDescriptor yX5_feed.desc).map (fun d => d.parameters.length) = some 6 := by decide +kernel
def b_X5_force_0 (x1 : Int32) (M : Mem) : Option (Int32 × Mem) := (if x1 < 0 then some ((-2 : Int32), M) else (if x1 < (FI M 0 8) then some ((FI M 1 2), (sFI M 1 2 x1)) else some ((-2 : Int32), M)))
set_option maxHeartbeats 4000000 in
set_option maxRecDepth 100000 in
theorem w_X5_force_0 (C : CX p s m args meth c cX5_force 3 (some .int) RX5 D cy ad zz 0 82 A) {M : Mem} {x1 : Int32} {rr : Int32} {M' : Mem} {H : Heap} {locs : List Loc} (hP : va_P D vwCl (pool cy ad 0 82 M) H) (hD : va_D A (pool cy ad 0 82 M)) (hS : va_S A s.heap H locs) {ls : Array Slot} (hl : lv_has ls 3 [(0, .ref (ad 0)), (1, .int x1)]) (h : b_X5_force_0 x1 M = some (rr, M')) : W p l e ({ frames := 0, cells := 0, slots := 0, locals := 0 } : Room) s m args below meth c H locs 0 0 (MQ below (va_Qi (fun (x : Int32) (_ : Unit) => x = rr) (fun _ t => PA D cy ad 0 82 A M' t) A) args s 0 0 A) (F0 m 0 ls []) := by
  obtain ⟨hx, hb, hml, hown, hts, hr, hlk, hK, hN, hA, hX⟩ := id C
  unfold b_X5_force_0 at h
  refine lv_iload_n hx hb dX5_force_0 rfl (lv_at hl 1 rfl) ?_
  refine lv_if_lt (tgt := 12) hx hb dX5_force_1 (by decide) (fun c1 => ?_) (fun c1 => ?_)
  · replace h := it_t c1 h
    refine lv_bipush (v := -2) hx hb dX5_force_12 (by decide) ?_
    exact rt_i (r := (-2 : Int32)) C hP hD hS dX5_force_14 (rw_end h)
  · replace h := it_f c1 h
    refine lv_iload_n hx hb dX5_force_4 rfl (lv_at hl 1 rfl) ?_
    refine lv_aload_n hx hb dX5_force_5 rfl (lv_at hl 0 rfl) ?_
    refine gf_5_8 C hP (iL (by decide)) (by decide) wd_382 dX5_force_6 ?_
    refine lv_icmp_lt (tgt := 15) hx hb dX5_force_9 (by decide) (fun c9 => ?_) (fun c9 => ?_)
    · replace h := it_t c9 h
      refine lv_aload_n hx hb dX5_force_15 rfl (lv_at hl 0 rfl) ?_
      refine gf_5_0 C hP (iL (by decide)) (by decide) wd_374 dX5_force_16 ?_
      refine gf_4_2 C hP (iL (by decide)) (by decide) wd_147 dX5_force_19 ?_
      refine lv_istore_n (lv' := [(2, .int (FI M 1 2)), (0, .ref (ad 0)), (1, .int x1)]) hx hb dX5_force_22 rfl hl (by decide) rfl (fun ls hl => ?_)
      refine lv_aload_n hx hb dX5_force_23 rfl (lv_at hl 1 rfl) ?_
      refine gf_5_0 C hP (iL (by decide)) (by decide) wd_374 dX5_force_24 ?_
      refine lv_iload_n hx hb dX5_force_27 rfl (lv_at hl 2 rfl) ?_
      refine pf_4_2 C hP hD hS (iL (by decide)) (by decide) wd_147 dX5_force_28 (fun H locs hP hD hS => ?_)
      refine lv_iload_n hx hb dX5_force_31 rfl (lv_at hl 0 rfl) ?_
      exact rt_i (r := (FI M 1 2)) C hP hD hS dX5_force_32 (rw_end h)
    · replace h := it_f c9 h
      refine lv_bipush (v := -2) hx hb dX5_force_12 (by decide) ?_
      exact rt_i (r := (-2 : Int32)) C hP hD hS dX5_force_14 (rw_end h)
def f_X5_force (x1 : Int32) (M : Mem) : Option (Int32 × Mem) := b_X5_force_0 x1 M
theorem c_X5_force {l : Launch} {D : va_G} {cy : Nat → ClassId} {ad : Nat → Nat} {zz : (Nat → Nat) × (Nat → Nat)} {x1 : Int32} {M : Mem} {rr : Int32} {M' : Mem} (h : f_X5_force x1 M = some (rr, M')) : CTi l D cy ad zz 0 82 yX5_force (.code yX5_force cX5_force 3 (some .int) :: tb) ({ frames := 0, cells := 0, slots := 0, locals := 0 } : Room) [.ref (ad 0), .int x1] M rr M' := by
  intro sz
  refine CX.of (by decide +kernel) (fun p e s m args below meth c H ls C hP hD hS hl => ?_) (Nat.le_of_ble_eq_true rfl)
  exact w_X5_force_0 C hP hD hS hl h
theorem ev_X5_force : yX5_force.cls = RX5 ∧ yX5_force.cls ≠ "java/lang/invoke/MethodHandle" ∧ yX5_force.cls ≠ "java/lang/invoke/VarHandle" ∧ (parseMethodDescriptor yX5_force.desc).map (fun d => d.parameters.length) = some 1 := by decide +kernel
def b_X5_textNumbered_19 (M : Mem) (x1 : Int32) : Option (Nat) := some (AR 45 (0 : Int32).toNatClampNeg)
set_option maxHeartbeats 4000000 in
set_option maxRecDepth 100000 in
theorem w_X5_textNumbered_19 (C : CX p s m args meth c cX5_textNumbered 2 (some (.object "BedsocksKeepRoads$Text")) RX5 D cy ad zz 0 82 A) {M : Mem} {x1 : Int32} {rr : Nat} {H : Heap} {locs : List Loc} (hP : va_P D vwCl (pool cy ad 0 82 M) H) (hD : va_D A (pool cy ad 0 82 M)) (hS : va_S A s.heap H locs) {ls : Array Slot} (hl : lv_has ls 2 [(0, .ref (ad 0))]) (h : b_X5_textNumbered_19 M x1 = some rr) : W p l e ({ frames := 0, cells := 0, slots := 0, locals := 0 } : Room) s m args below meth c H locs 0 0 (MQ below (va_Qq (fun (x : Option Nat) (_ : Unit) => x = (some rr).map ad) (fun _ t => PA D cy ad 0 82 A M t) A) args s 0 0 A) (F0 m 19 ls []) := by
  obtain ⟨hx, hb, hml, hown, hts, hr, hlk, hK, hN, hA, hX⟩ := id C
  unfold b_X5_textNumbered_19 at h
  refine lv_aload_n hx hb dX5_textNumbered_19 rfl (lv_at hl 0 rfl) ?_
  refine gf_5_4 C hP (iL (by decide)) (by decide) wd_378 dX5_textNumbered_20 ?_
  refine lv_iconst (v := 0) hx hb dX5_textNumbered_23 (by decide) ?_
  refine aa_11 C hP (iL (by decide)) (by decide) (by decide) dX5_textNumbered_24 ?_
  exact rt_q (r := (some (AR 45 (0 : Int32).toNatClampNeg))) C hP hD hS dX5_textNumbered_25 ⟨congrArg some (Option.some.inj h), rfl⟩
def b_X5_textNumbered_0 (M : Mem) (x1 : Int32) : Option (Nat) := (if x1 < 0 then b_X5_textNumbered_19 M x1 else (if (6 : Int32) ≤ x1 then b_X5_textNumbered_19 M x1 else gd (inb x1 (len 45)) (some (AR 45 x1.toNatClampNeg))))
set_option maxHeartbeats 4000000 in
set_option maxRecDepth 100000 in
theorem w_X5_textNumbered_0 (C : CX p s m args meth c cX5_textNumbered 2 (some (.object "BedsocksKeepRoads$Text")) RX5 D cy ad zz 0 82 A) {M : Mem} {x1 : Int32} {rr : Nat} {H : Heap} {locs : List Loc} (hP : va_P D vwCl (pool cy ad 0 82 M) H) (hD : va_D A (pool cy ad 0 82 M)) (hS : va_S A s.heap H locs) {ls : Array Slot} (hl : lv_has ls 2 [(0, .ref (ad 0)), (1, .int x1)]) (h : b_X5_textNumbered_0 M x1 = some rr) : W p l e ({ frames := 0, cells := 0, slots := 0, locals := 0 } : Room) s m args below meth c H locs 0 0 (MQ below (va_Qq (fun (x : Option Nat) (_ : Unit) => x = (some rr).map ad) (fun _ t => PA D cy ad 0 82 A M t) A) args s 0 0 A) (F0 m 0 ls []) := by
  obtain ⟨hx, hb, hml, hown, hts, hr, hlk, hK, hN, hA, hX⟩ := id C
  unfold b_X5_textNumbered_0 at h
  refine lv_iload_n hx hb dX5_textNumbered_0 rfl (lv_at hl 1 rfl) ?_
  refine lv_if_lt (tgt := 19) hx hb dX5_textNumbered_1 (by decide) (fun c1 => ?_) (fun c1 => ?_)
  · replace h := it_t c1 h
    exact w_X5_textNumbered_19 C hP hD hS (lv_sub hl [0] rfl) h
  · replace h := it_f c1 h
    refine lv_iload_n hx hb dX5_textNumbered_4 rfl (lv_at hl 1 rfl) ?_
    refine lv_bipush (v := 6) hx hb dX5_textNumbered_5 (by decide) ?_
    refine lv_icmp_ge (tgt := 19) hx hb dX5_textNumbered_7 (by decide) (fun c7 => ?_) (fun c7 => ?_)
    · replace h := it_t c7 h
      exact w_X5_textNumbered_19 C hP hD hS (lv_sub hl [0] rfl) h
    · replace h := it_f c7 h
      refine lv_aload_n hx hb dX5_textNumbered_10 rfl (lv_at hl 0 rfl) ?_
      refine gf_5_4 C hP (iL (by decide)) (by decide) wd_378 dX5_textNumbered_11 ?_
      refine lv_iload_n hx hb dX5_textNumbered_14 rfl (lv_at hl 1 rfl) ?_
      obtain ⟨gi1, h⟩ := gd_of h
      refine aa_11 C hP (iL (by decide)) (by decide) gi1 dX5_textNumbered_15 ?_
      refine lv_goto (tgt := 25) hx hb dX5_textNumbered_16 (by decide) ?_
      exact rt_q (r := (some (AR 45 x1.toNatClampNeg))) C hP hD hS dX5_textNumbered_25 ⟨congrArg some (Option.some.inj h), rfl⟩
def f_X5_textNumbered (x1 : Int32) (M : Mem) : Option (Nat) := b_X5_textNumbered_0 M x1
theorem c_X5_textNumbered {l : Launch} {D : va_G} {cy : Nat → ClassId} {ad : Nat → Nat} {zz : (Nat → Nat) × (Nat → Nat)} {x1 : Int32} {M : Mem} {rr : Nat} (h : f_X5_textNumbered x1 M = some rr) : CTq l D cy ad zz 0 82 yX5_textNumbered (.code yX5_textNumbered cX5_textNumbered 2 (some (.object "BedsocksKeepRoads$Text")) :: tb) ({ frames := 0, cells := 0, slots := 0, locals := 0 } : Room) [.ref (ad 0), .int x1] M (some rr) M := by
  intro sz
  refine CX.of (by decide +kernel) (fun p e s m args below meth c H ls C hP hD hS hl => ?_) (Nat.le_of_ble_eq_true rfl)
  exact w_X5_textNumbered_0 C hP hD hS hl h
theorem ev_X5_textNumbered : yX5_textNumbered.cls = RX5 ∧ yX5_textNumbered.cls ≠ "java/lang/invoke/MethodHandle" ∧ yX5_textNumbered.cls ≠ "java/lang/invoke/VarHandle" ∧ (parseMethodDescriptor yX5_textNumbered.desc).map (fun d => d.parameters.length) = some 1 := by decide +kernel
def b_X5_theLaw_0 (M : Mem) : Option (Nat) := (f_X5_textNumbered (FI M 1 2) M).bind fun r8 => some r8
set_option maxHeartbeats 4000000 in
set_option maxRecDepth 100000 in
theorem w_X5_theLaw_0 (C : CX p s m args meth c cX5_theLaw 1 (some (.object "BedsocksKeepRoads$Text")) RX5 D cy ad zz 0 82 A) {M : Mem} {rr : Nat} {H : Heap} {locs : List Loc} (hP : va_P D vwCl (pool cy ad 0 82 M) H) (hD : va_D A (pool cy ad 0 82 M)) (hS : va_S A s.heap H locs) {ls : Array Slot} (hl : lv_has ls 1 [(0, .ref (ad 0))]) (h : b_X5_theLaw_0 M = some rr) : W p l e ({ frames := 1, cells := 0, slots := 0, locals := 21 } : Room) s m args below meth c H locs 0 0 (MQ below (va_Qq (fun (x : Option Nat) (_ : Unit) => x = (some rr).map ad) (fun _ t => PA D cy ad 0 82 A M t) A) args s 0 0 A) (F0 m 0 ls []) := by
  obtain ⟨hx, hb, hml, hown, hts, hr, hlk, hK, hN, hA, hX⟩ := id C
  unfold b_X5_theLaw_0 at h
  refine lv_aload_n hx hb dX5_theLaw_0 rfl (lv_at hl 0 rfl) ?_
  refine lv_aload_n hx hb dX5_theLaw_1 rfl (lv_at hl 0 rfl) ?_
  refine gf_5_0 C hP (iL (by decide)) (by decide) wd_374 dX5_theLaw_2 ?_
  refine gf_4_2 C hP (iL (by decide)) (by decide) wd_147 dX5_theLaw_5 ?_
  obtain ⟨r8, g8, h⟩ := bd_of h
  refine call_rV (As := [.int (FI M 1 2)]) (rest := []) C hP hD hS (c_X5_textNumbered g8) (iL (by decide)) ⟨5, _, _, ent_5 (by decide), rfl, rfl⟩ (gV wd_463 wd_465 wd_14 wd_64 wd_466) ev_X5_textNumbered ⟨rfl, rfl⟩ ⟨Nat.le_of_ble_eq_true rfl, Nat.le_of_ble_eq_true rfl⟩ hl.1 rfl (Nat.le_of_ble_eq_true rfl) dX5_theLaw_8 (fun H locs hP hD hS => ?_)
  exact rt_q (r := (some r8)) C hP hD hS dX5_theLaw_11 ⟨congrArg some (Option.some.inj h), rfl⟩
def f_X5_theLaw (M : Mem) : Option (Nat) := b_X5_theLaw_0 M
theorem c_X5_theLaw {l : Launch} {D : va_G} {cy : Nat → ClassId} {ad : Nat → Nat} {zz : (Nat → Nat) × (Nat → Nat)} {M : Mem} {rr : Nat} (h : f_X5_theLaw M = some rr) : CTq l D cy ad zz 0 82 yX5_theLaw (.code yX5_theLaw cX5_theLaw 1 (some (.object "BedsocksKeepRoads$Text")) :: tb) ({ frames := 1, cells := 0, slots := 0, locals := 21 } : Room) [.ref (ad 0)] M (some rr) M := by
  intro sz
  refine CX.of (by decide +kernel) (fun p e s m args below meth c H ls C hP hD hS hl => ?_) (Nat.le_of_ble_eq_true rfl)
  exact w_X5_theLaw_0 C hP hD hS hl h
theorem ev_X5_theLaw : yX5_theLaw.cls = RX5 ∧ yX5_theLaw.cls ≠ "java/lang/invoke/MethodHandle" ∧ yX5_theLaw.cls ≠ "java/lang/invoke/VarHandle" ∧ (parseMethodDescriptor yX5_theLaw.desc).map (fun d => d.parameters.length) = some 0 := by decide +kernel
def b_X5_asks_0 (N : Nat) (x1 : Int32) (x2 : Int32) (M : Mem) : Option (Int32 × Mem) := (f_X4_numbered 1 x2 M).bind fun r5 => (oc r5 (some ((-1000 : Int32), M)) (fun (j10 : Nat) => (if x1 < 0 then some ((-1000 : Int32), M) else (if x1 < (3 : Int32) then (f_X5_theLaw M).bind fun r27 => gd (isK r27 3) (gd (isK j10 2) (bd2 (f_X3_says N r27 x1 j10 M) fun r32 M32 => some (r32, M32))) else some ((-1000 : Int32), M)))))
set_option maxHeartbeats 4000000 in
set_option maxRecDepth 100000 in
theorem w_X5_asks_0 (C : CX p s m args meth c cX5_asks 4 (some .int) RX5 D cy ad zz 0 82 A) {N : Nat} {M : Mem} {x1 : Int32} {x2 : Int32} {rr : Int32} {M' : Mem} {H : Heap} {locs : List Loc} (hP : va_P D vwCl (pool cy ad 0 82 M) H) (hD : va_D A (pool cy ad 0 82 M)) (hS : va_S A s.heap H locs) {ls : Array Slot} (hl : lv_has ls 4 [(0, .ref (ad 0)), (1, .int x1), (2, .int x2)]) (h : b_X5_asks_0 N x1 x2 M = some (rr, M')) : W p l e ({ frames := 3, cells := 0, slots := 0, locals := 70 } : Room) s m args below meth c H locs 0 0 (MQ below (va_Qi (fun (x : Int32) (_ : Unit) => x = rr) (fun _ t => PA D cy ad 0 82 A M' t) A) args s 0 0 A) (F0 m 0 ls []) := by
  obtain ⟨hx, hb, hml, hown, hts, hr, hlk, hK, hN, hA, hX⟩ := id C
  unfold b_X5_asks_0 at h
  refine lv_aload_n hx hb dX5_asks_0 rfl (lv_at hl 0 rfl) ?_
  refine gf_5_0 C hP (iL (by decide)) (by decide) wd_374 dX5_asks_1 ?_
  refine lv_iload_n hx hb dX5_asks_4 rfl (lv_at hl 2 rfl) ?_
  obtain ⟨r5, g5, h⟩ := bd_of h
  refine call_qV (As := [.int x2]) (rest := []) C hP hD hS (c_X4_numbered (by decide) g5) (iL (by decide)) ⟨4, _, _, ent_4 (by decide), rfl, rfl⟩ (gV wd_455 wd_456 wd_457 wd_65 wd_458) ev_X4_numbered ⟨rfl, rfl⟩ ⟨Nat.le_of_ble_eq_true rfl, Nat.le_of_ble_eq_true rfl⟩ hl.1 rfl (Nat.le_of_ble_eq_true rfl) dX5_asks_5 (fun H locs hP hD hS => ?_)
  refine nq_astore_n (lv' := [(3, va_re ad r5), (0, .ref (ad 0)), (1, .int x1), (2, .int x2)]) hx hb dX5_asks_8 rfl hl (by decide) rfl (fun ls hl => ?_)
  refine nq_aload_n hx hb dX5_asks_9 rfl (lv_at hl 0 rfl) ?_
  cases r5 with
  | none =>
    replace h := oc_n h
    have hl : lv_has ls 4 [(3, .null), (0, .ref (ad 0)), (1, .int x1), (2, .int x2)] := hl
    refine W.eq (g2 := F0 m 10 ls [.null]) rfl ?_
    refine lv_ifnullN (tgt := 22) hx hb dX5_asks_10 (by decide) ?_
    refine lv_sipush (v := -1000) hx hb dX5_asks_22 (by decide) ?_
    exact rt_i (r := (-1000 : Int32)) C hP hD hS dX5_asks_25 (rw_end h)
  | some j10 =>
    replace h := oc_s h
    have hl : lv_has ls 4 [(3, .ref (ad j10)), (0, .ref (ad 0)), (1, .int x1), (2, .int x2)] := hl
    refine W.eq (g2 := F0 m 10 ls [.ref (ad j10)]) rfl ?_
    refine lv_ifnull hx hb dX5_asks_10 ?_
    refine lv_iload_n hx hb dX5_asks_13 rfl (lv_at hl 2 rfl) ?_
    refine lv_if_lt (tgt := 22) hx hb dX5_asks_14 (by decide) (fun c14 => ?_) (fun c14 => ?_)
    · replace h := it_t c14 h
      refine lv_sipush (v := -1000) hx hb dX5_asks_22 (by decide) ?_
      exact rt_i (r := (-1000 : Int32)) C hP hD hS dX5_asks_25 (rw_end h)
    · replace h := it_f c14 h
      refine lv_iload_n hx hb dX5_asks_17 rfl (lv_at hl 2 rfl) ?_
      refine lv_iconst (v := 3) hx hb dX5_asks_18 (by decide) ?_
      refine lv_icmp_lt (tgt := 26) hx hb dX5_asks_19 (by decide) (fun c19 => ?_) (fun c19 => ?_)
      · replace h := it_t c19 h
        refine lv_aload_n hx hb dX5_asks_26 rfl (lv_at hl 1 rfl) ?_
        obtain ⟨r27, g27, h⟩ := bd_of h
        refine call_rV (As := []) (rest := []) C hP hD hS (c_X5_theLaw g27) (iL (by decide)) ⟨5, _, _, ent_5 (by decide), rfl, rfl⟩ (gV wd_459 wd_461 wd_13 wd_64 wd_462) ev_X5_theLaw ⟨rfl, rfl⟩ ⟨Nat.le_of_ble_eq_true rfl, Nat.le_of_ble_eq_true rfl⟩ hl.1 rfl (Nat.le_of_ble_eq_true rfl) dX5_asks_27 (fun H locs hP hD hS => ?_)
        refine lv_iload_n hx hb dX5_asks_30 rfl (lv_at hl 2 rfl) ?_
        refine lv_aload_n hx hb dX5_asks_31 rfl (lv_at hl 0 rfl) ?_
        obtain ⟨gk1, h⟩ := gd_of h
        obtain ⟨gk2, h⟩ := gd_of h
        obtain ⟨r32, M32, g32, h⟩ := bd2_of h
        refine call_iV (As := [.int x1, .ref (ad j10)]) (rest := []) C hP hD hS (c_X3_says (isK_of gk1) (isK_of gk2) g32) (p_3 (isK_of gk1)) ⟨3, _, _, ent_3 (isK_of gk1), rfl, rfl⟩ (gV wd_467 wd_468 wd_469 wd_67 wd_470) ev_X3_says ⟨rfl, rfl⟩ ⟨Nat.le_of_ble_eq_true rfl, Nat.le_of_ble_eq_true rfl⟩ hl.1 rfl (Nat.le_of_ble_eq_true rfl) dX5_asks_32 (fun H locs hP hD hS => ?_)
        exact rt_i (r := r32) C hP hD hS dX5_asks_35 (rw_end h)
      · replace h := it_f c19 h
        refine lv_sipush (v := -1000) hx hb dX5_asks_22 (by decide) ?_
        exact rt_i (r := (-1000 : Int32)) C hP hD hS dX5_asks_25 (rw_end h)
def f_X5_asks (N : Nat) (x1 : Int32) (x2 : Int32) (M : Mem) : Option (Int32 × Mem) := b_X5_asks_0 N x1 x2 M
theorem c_X5_asks {l : Launch} {D : va_G} {cy : Nat → ClassId} {ad : Nat → Nat} {zz : (Nat → Nat) × (Nat → Nat)} {N : Nat} {x1 : Int32} {x2 : Int32} {M : Mem} {rr : Int32} {M' : Mem} (h : f_X5_asks N x1 x2 M = some (rr, M')) : CTi l D cy ad zz 0 82 yX5_asks (.code yX5_asks cX5_asks 4 (some .int) :: tb) ({ frames := 3, cells := 0, slots := 0, locals := 70 } : Room) [.ref (ad 0), .int x1, .int x2] M rr M' := by
  intro sz
  refine CX.of (by decide +kernel) (fun p e s m args below meth c H ls C hP hD hS hl => ?_) (Nat.le_of_ble_eq_true rfl)
  exact w_X5_asks_0 C hP hD hS hl h
theorem ev_X5_asks : yX5_asks.cls = RX5 ∧ yX5_asks.cls ≠ "java/lang/invoke/MethodHandle" ∧ yX5_asks.cls ≠ "java/lang/invoke/VarHandle" ∧ (parseMethodDescriptor yX5_asks.desc).map (fun d => d.parameters.length) = some 2 := by decide +kernel
def b_X5_isKindMore_0 (M : Mem) (x0 : Int32) : Option (Bool) := (if x0 < 0 then some false else (if (60 : Int32) ≤ x0 then some false else some true))
set_option maxHeartbeats 4000000 in
set_option maxRecDepth 100000 in
theorem w_X5_isKindMore_0 (C : CX p s m args meth c cX5_isKindMore 1 (some .boolean) RX5 D cy ad zz 0 82 A) {M : Mem} {x0 : Int32} {rr : Bool} {H : Heap} {locs : List Loc} (hP : va_P D vwCl (pool cy ad 0 82 M) H) (hD : va_D A (pool cy ad 0 82 M)) (hS : va_S A s.heap H locs) {ls : Array Slot} (hl : lv_has ls 1 [(0, .int x0)]) (h : b_X5_isKindMore_0 M x0 = some rr) : W p l e ({ frames := 0, cells := 0, slots := 0, locals := 0 } : Room) s m args below meth c H locs 0 0 (MQ below (va_Qi (fun (x : Int32) (_ : Unit) => x = b2i rr) (fun _ t => PA D cy ad 0 82 A M t) A) args s 0 0 A) (F0 m 0 ls []) := by
  obtain ⟨hx, hb, hml, hown, hts, hr, hlk, hK, hN, hA, hX⟩ := id C
  unfold b_X5_isKindMore_0 at h
  refine lv_iload_n hx hb dX5_isKindMore_0 rfl (lv_at hl 0 rfl) ?_
  refine lv_if_lt (tgt := 14) hx hb dX5_isKindMore_1 (by decide) (fun c1 => ?_) (fun c1 => ?_)
  · replace h := it_t c1 h
    refine lv_iconst (v := 0) hx hb dX5_isKindMore_14 (by decide) ?_
    exact rt_z (r := false) C hP hD hS dX5_isKindMore_15 ⟨Option.some.inj h, rfl⟩
  · replace h := it_f c1 h
    refine lv_iload_n hx hb dX5_isKindMore_4 rfl (lv_at hl 0 rfl) ?_
    refine lv_bipush (v := 60) hx hb dX5_isKindMore_5 (by decide) ?_
    refine lv_icmp_ge (tgt := 14) hx hb dX5_isKindMore_7 (by decide) (fun c7 => ?_) (fun c7 => ?_)
    · replace h := it_t c7 h
      refine lv_iconst (v := 0) hx hb dX5_isKindMore_14 (by decide) ?_
      exact rt_z (r := false) C hP hD hS dX5_isKindMore_15 ⟨Option.some.inj h, rfl⟩
    · replace h := it_f c7 h
      refine lv_iconst (v := 1) hx hb dX5_isKindMore_10 (by decide) ?_
      refine lv_goto (tgt := 15) hx hb dX5_isKindMore_11 (by decide) ?_
      exact rt_z (r := true) C hP hD hS dX5_isKindMore_15 ⟨Option.some.inj h, rfl⟩
def f_X5_isKindMore (x0 : Int32) (M : Mem) : Option (Bool) := b_X5_isKindMore_0 M x0
theorem c_X5_isKindMore {l : Launch} {D : va_G} {cy : Nat → ClassId} {ad : Nat → Nat} {zz : (Nat → Nat) × (Nat → Nat)} {x0 : Int32} {M : Mem} {rr : Bool} (h : f_X5_isKindMore x0 M = some rr) : CTi l D cy ad zz 0 82 yX5_isKindMore (.code yX5_isKindMore cX5_isKindMore 1 (some .boolean) :: tb) ({ frames := 0, cells := 0, slots := 0, locals := 0 } : Room) [.int x0] M (b2i rr) M := by
  intro sz
  refine CX.of (by decide +kernel) (fun p e s m args below meth c H ls C hP hD hS hl => ?_) (Nat.le_of_ble_eq_true rfl)
  exact w_X5_isKindMore_0 C hP hD hS hl h
theorem es_X5_isKindMore : yX5_isKindMore.cls ≠ "java/lang/invoke/MethodHandle" ∧ yX5_isKindMore.cls ≠ "java/lang/invoke/VarHandle" ∧ (parseMethodDescriptor yX5_isKindMore.desc).map (fun d => d.parameters.length) = some 1 := by decide +kernel
def b_X5_isCellWay_0 (M : Mem) (x0 : Int32) : Option (Bool) := (if x0 < 0 then some false else (if (640 : Int32) ≤ x0 then some false else (if (4 : Int32) ≤ (x0 - x0 / (10 : Int32) * (10 : Int32)) then some false else some true)))
set_option maxHeartbeats 4000000 in
set_option maxRecDepth 100000 in
theorem w_X5_isCellWay_0 (C : CX p s m args meth c cX5_isCellWay 1 (some .boolean) RX5 D cy ad zz 0 82 A) {M : Mem} {x0 : Int32} {rr : Bool} {H : Heap} {locs : List Loc} (hP : va_P D vwCl (pool cy ad 0 82 M) H) (hD : va_D A (pool cy ad 0 82 M)) (hS : va_S A s.heap H locs) {ls : Array Slot} (hl : lv_has ls 1 [(0, .int x0)]) (h : b_X5_isCellWay_0 M x0 = some rr) : W p l e ({ frames := 0, cells := 0, slots := 0, locals := 0 } : Room) s m args below meth c H locs 0 0 (MQ below (va_Qi (fun (x : Int32) (_ : Unit) => x = b2i rr) (fun _ t => PA D cy ad 0 82 A M t) A) args s 0 0 A) (F0 m 0 ls []) := by
  obtain ⟨hx, hb, hml, hown, hts, hr, hlk, hK, hN, hA, hX⟩ := id C
  unfold b_X5_isCellWay_0 at h
  refine lv_iload_n hx hb dX5_isCellWay_0 rfl (lv_at hl 0 rfl) ?_
  refine lv_if_lt (tgt := 23) hx hb dX5_isCellWay_1 (by decide) (fun c1 => ?_) (fun c1 => ?_)
  · replace h := it_t c1 h
    refine lv_iconst (v := 0) hx hb dX5_isCellWay_23 (by decide) ?_
    exact rt_z (r := false) C hP hD hS dX5_isCellWay_24 ⟨Option.some.inj h, rfl⟩
  · replace h := it_f c1 h
    refine lv_iload_n hx hb dX5_isCellWay_4 rfl (lv_at hl 0 rfl) ?_
    refine lv_sipush (v := 640) hx hb dX5_isCellWay_5 (by decide) ?_
    refine lv_icmp_ge (tgt := 23) hx hb dX5_isCellWay_8 (by decide) (fun c8 => ?_) (fun c8 => ?_)
    · replace h := it_t c8 h
      refine lv_iconst (v := 0) hx hb dX5_isCellWay_23 (by decide) ?_
      exact rt_z (r := false) C hP hD hS dX5_isCellWay_24 ⟨Option.some.inj h, rfl⟩
    · replace h := it_f c8 h
      refine lv_iload_n hx hb dX5_isCellWay_11 rfl (lv_at hl 0 rfl) ?_
      refine lv_bipush (v := 10) hx hb dX5_isCellWay_12 (by decide) ?_
      refine lv_irem hx hb dX5_isCellWay_14 (by decide) ?_
      refine lv_iconst (v := 4) hx hb dX5_isCellWay_15 (by decide) ?_
      refine lv_icmp_ge (tgt := 23) hx hb dX5_isCellWay_16 (by decide) (fun c16 => ?_) (fun c16 => ?_)
      · replace h := it_t c16 h
        refine lv_iconst (v := 0) hx hb dX5_isCellWay_23 (by decide) ?_
        exact rt_z (r := false) C hP hD hS dX5_isCellWay_24 ⟨Option.some.inj h, rfl⟩
      · replace h := it_f c16 h
        refine lv_iconst (v := 1) hx hb dX5_isCellWay_19 (by decide) ?_
        refine lv_goto (tgt := 24) hx hb dX5_isCellWay_20 (by decide) ?_
        exact rt_z (r := true) C hP hD hS dX5_isCellWay_24 ⟨Option.some.inj h, rfl⟩
def f_X5_isCellWay (x0 : Int32) (M : Mem) : Option (Bool) := b_X5_isCellWay_0 M x0
theorem c_X5_isCellWay {l : Launch} {D : va_G} {cy : Nat → ClassId} {ad : Nat → Nat} {zz : (Nat → Nat) × (Nat → Nat)} {x0 : Int32} {M : Mem} {rr : Bool} (h : f_X5_isCellWay x0 M = some rr) : CTi l D cy ad zz 0 82 yX5_isCellWay (.code yX5_isCellWay cX5_isCellWay 1 (some .boolean) :: tb) ({ frames := 0, cells := 0, slots := 0, locals := 0 } : Room) [.int x0] M (b2i rr) M := by
  intro sz
  refine CX.of (by decide +kernel) (fun p e s m args below meth c H ls C hP hD hS hl => ?_) (Nat.le_of_ble_eq_true rfl)
  exact w_X5_isCellWay_0 C hP hD hS hl h
theorem es_X5_isCellWay : yX5_isCellWay.cls ≠ "java/lang/invoke/MethodHandle" ∧ yX5_isCellWay.cls ≠ "java/lang/invoke/VarHandle" ∧ (parseMethodDescriptor yX5_isCellWay.desc).map (fun d => d.parameters.length) = some 1 := by decide +kernel
def b_X5_sleeper_0 (x1 : Int32) (x2 : Int32) (M : Mem) : Option (Int32 × Mem) := (f_X5_isKindMore x1 M).bind fun r1 => (if r1 = true then (f_X5_isCellWay x2 M).bind fun r8 => (if r8 = true then (if (FI M 1 3) < (6 : Int32) then bd2 (f_X4_add 1 x1 x2 M) fun r38 M38 => some (r38, M38) else some ((-4 : Int32), M)) else some ((-2 : Int32), M)) else some ((-2 : Int32), M))
set_option maxHeartbeats 4000000 in
set_option maxRecDepth 100000 in
theorem w_X5_sleeper_0 (C : CX p s m args meth c cX5_sleeper 3 (some .int) RX5 D cy ad zz 0 82 A) {M : Mem} {x1 : Int32} {x2 : Int32} {rr : Int32} {M' : Mem} {H : Heap} {locs : List Loc} (hP : va_P D vwCl (pool cy ad 0 82 M) H) (hD : va_D A (pool cy ad 0 82 M)) (hS : va_S A s.heap H locs) {ls : Array Slot} (hl : lv_has ls 3 [(0, .ref (ad 0)), (1, .int x1), (2, .int x2)]) (h : b_X5_sleeper_0 x1 x2 M = some (rr, M')) : W p l e ({ frames := 2, cells := 0, slots := 0, locals := 44 } : Room) s m args below meth c H locs 0 0 (MQ below (va_Qi (fun (x : Int32) (_ : Unit) => x = rr) (fun _ t => PA D cy ad 0 82 A M' t) A) args s 0 0 A) (F0 m 0 ls []) := by
  obtain ⟨hx, hb, hml, hown, hts, hr, hlk, hK, hN, hA, hX⟩ := id C
  unfold b_X5_sleeper_0 at h
  refine lv_iload_n hx hb dX5_sleeper_0 rfl (lv_at hl 1 rfl) ?_
  obtain ⟨r1, g1, h⟩ := bd_of h
  refine call_iS (As := [.int x1]) (rest := []) C hP hD hS (c_X5_isKindMore g1) (gS wd_492 wd_493 wd_64 wd_494) es_X5_isKindMore ⟨rfl, rfl⟩ ⟨Nat.le_of_ble_eq_true rfl, Nat.le_of_ble_eq_true rfl⟩ hl.1 rfl (Nat.le_of_ble_eq_true rfl) dX5_sleeper_1 (fun H locs hP hD hS => ?_)
  refine lv_if_eq (tgt := 14) hx hb dX5_sleeper_4 (by decide) (fun c4 => ?_) (fun c4 => ?_)
  · replace h := it_f (b2i_n c4) h
    refine lv_bipush (v := -2) hx hb dX5_sleeper_14 (by decide) ?_
    exact rt_i (r := (-2 : Int32)) C hP hD hS dX5_sleeper_16 (rw_end h)
  · replace h := it_t (b2i_1 c4) h
    refine lv_iload_n hx hb dX5_sleeper_7 rfl (lv_at hl 2 rfl) ?_
    obtain ⟨r8, g8, h⟩ := bd_of h
    refine call_iS (As := [.int x2]) (rest := []) C hP hD hS (c_X5_isCellWay g8) (gS wd_495 wd_496 wd_64 wd_497) es_X5_isCellWay ⟨rfl, rfl⟩ ⟨Nat.le_of_ble_eq_true rfl, Nat.le_of_ble_eq_true rfl⟩ hl.1 rfl (Nat.le_of_ble_eq_true rfl) dX5_sleeper_8 (fun H locs hP hD hS => ?_)
    refine lv_if_ne (tgt := 17) hx hb dX5_sleeper_11 (by decide) (fun c11 => ?_) (fun c11 => ?_)
    · replace h := it_t (b2i_1 c11) h
      refine lv_aload_n hx hb dX5_sleeper_17 rfl (lv_at hl 0 rfl) ?_
      refine gf_5_0 C hP (iL (by decide)) (by decide) wd_374 dX5_sleeper_18 ?_
      refine gf_4_3 C hP (iL (by decide)) (by decide) wd_149 dX5_sleeper_21 ?_
      refine lv_bipush (v := 6) hx hb dX5_sleeper_24 (by decide) ?_
      refine lv_icmp_lt (tgt := 32) hx hb dX5_sleeper_26 (by decide) (fun c26 => ?_) (fun c26 => ?_)
      · replace h := it_t c26 h
        refine lv_aload_n hx hb dX5_sleeper_32 rfl (lv_at hl 0 rfl) ?_
        refine gf_5_0 C hP (iL (by decide)) (by decide) wd_374 dX5_sleeper_33 ?_
        refine lv_iload_n hx hb dX5_sleeper_36 rfl (lv_at hl 1 rfl) ?_
        refine lv_iload_n hx hb dX5_sleeper_37 rfl (lv_at hl 2 rfl) ?_
        obtain ⟨r38, M38, g38, h⟩ := bd2_of h
        refine call_iV (As := [.int x1, .int x2]) (rest := []) C hP hD hS (c_X4_add (by decide) g38) (iL (by decide)) ⟨4, _, _, ent_4 (by decide), rfl, rfl⟩ (gV wd_498 wd_499 wd_500 wd_65 wd_501) ev_X4_add ⟨rfl, rfl⟩ ⟨Nat.le_of_ble_eq_true rfl, Nat.le_of_ble_eq_true rfl⟩ hl.1 rfl (Nat.le_of_ble_eq_true rfl) dX5_sleeper_38 (fun H locs hP hD hS => ?_)
        exact rt_i (r := r38) C hP hD hS dX5_sleeper_41 (rw_end h)
      · replace h := it_f c26 h
        refine lv_bipush (v := -4) hx hb dX5_sleeper_29 (by decide) ?_
        exact rt_i (r := (-4 : Int32)) C hP hD hS dX5_sleeper_31 (rw_end h)
    · replace h := it_f (b2i_n c11) h
      refine lv_bipush (v := -2) hx hb dX5_sleeper_14 (by decide) ?_
      exact rt_i (r := (-2 : Int32)) C hP hD hS dX5_sleeper_16 (rw_end h)
def f_X5_sleeper (x1 : Int32) (x2 : Int32) (M : Mem) : Option (Int32 × Mem) := b_X5_sleeper_0 x1 x2 M
theorem c_X5_sleeper {l : Launch} {D : va_G} {cy : Nat → ClassId} {ad : Nat → Nat} {zz : (Nat → Nat) × (Nat → Nat)} {x1 : Int32} {x2 : Int32} {M : Mem} {rr : Int32} {M' : Mem} (h : f_X5_sleeper x1 x2 M = some (rr, M')) : CTi l D cy ad zz 0 82 yX5_sleeper (.code yX5_sleeper cX5_sleeper 3 (some .int) :: tb) ({ frames := 2, cells := 0, slots := 0, locals := 44 } : Room) [.ref (ad 0), .int x1, .int x2] M rr M' := by
  intro sz
  refine CX.of (by decide +kernel) (fun p e s m args below meth c H ls C hP hD hS hl => ?_) (Nat.le_of_ble_eq_true rfl)
  exact w_X5_sleeper_0 C hP hD hS hl h
theorem ev_X5_sleeper : yX5_sleeper.cls = RX5 ∧ yX5_sleeper.cls ≠ "java/lang/invoke/MethodHandle" ∧ yX5_sleeper.cls ≠ "java/lang/invoke/VarHandle" ∧ (parseMethodDescriptor yX5_sleeper.desc).map (fun d => d.parameters.length) = some 2 := by decide +kernel
def b_X5_put_0 (x1 : Int32) (x2 : Int32) (x3 : Int32) (M : Mem) : Option (Int32 × Mem) := (f_X4_numbered 1 x1 M).bind fun r5 => (oc r5 (some ((-5 : Int32), M)) (fun (j12 : Nat) => (if x3 < 0 then some ((-7 : Int32), M) else gd (isK j12 2) ((f_X2_bound j12 x2 M).bind fun r26 => (if x3 < r26 then (f_X2_part j12 x2 M).bind fun r38 => (f_X2_become j12 x2 x3 M).bind fun M47 => some (r38, M47) else some ((-7 : Int32), M))))))
set_option maxHeartbeats 4000000 in
set_option maxRecDepth 100000 in
theorem w_X5_put_0 (C : CX p s m args meth c cX5_put 6 (some .int) RX5 D cy ad zz 0 82 A) {M : Mem} {x1 : Int32} {x2 : Int32} {x3 : Int32} {rr : Int32} {M' : Mem} {H : Heap} {locs : List Loc} (hP : va_P D vwCl (pool cy ad 0 82 M) H) (hD : va_D A (pool cy ad 0 82 M)) (hS : va_S A s.heap H locs) {ls : Array Slot} (hl : lv_has ls 6 [(0, .ref (ad 0)), (1, .int x1), (2, .int x2), (3, .int x3)]) (h : b_X5_put_0 x1 x2 x3 M = some (rr, M')) : W p l e ({ frames := 1, cells := 0, slots := 0, locals := 22 } : Room) s m args below meth c H locs 0 0 (MQ below (va_Qi (fun (x : Int32) (_ : Unit) => x = rr) (fun _ t => PA D cy ad 0 82 A M' t) A) args s 0 0 A) (F0 m 0 ls []) := by
  obtain ⟨hx, hb, hml, hown, hts, hr, hlk, hK, hN, hA, hX⟩ := id C
  unfold b_X5_put_0 at h
  refine lv_aload_n hx hb dX5_put_0 rfl (lv_at hl 0 rfl) ?_
  refine gf_5_0 C hP (iL (by decide)) (by decide) wd_374 dX5_put_1 ?_
  refine lv_iload_n hx hb dX5_put_4 rfl (lv_at hl 1 rfl) ?_
  obtain ⟨r5, g5, h⟩ := bd_of h
  refine call_qV (As := [.int x1]) (rest := []) C hP hD hS (c_X4_numbered (by decide) g5) (iL (by decide)) ⟨4, _, _, ent_4 (by decide), rfl, rfl⟩ (gV wd_455 wd_456 wd_457 wd_65 wd_458) ev_X4_numbered ⟨rfl, rfl⟩ ⟨Nat.le_of_ble_eq_true rfl, Nat.le_of_ble_eq_true rfl⟩ hl.1 rfl (Nat.le_of_ble_eq_true rfl) dX5_put_5 (fun H locs hP hD hS => ?_)
  refine nq_astore (lv' := [(4, va_re ad r5), (0, .ref (ad 0)), (1, .int x1), (2, .int x2), (3, .int x3)]) hx hb dX5_put_8 hl (by decide) rfl (fun ls hl => ?_)
  refine nq_aload hx hb dX5_put_10 (lv_at hl 0 rfl) ?_
  cases r5 with
  | none =>
    replace h := oc_n h
    have hl : lv_has ls 6 [(4, .null), (0, .ref (ad 0)), (1, .int x1), (2, .int x2), (3, .int x3)] := hl
    refine W.eq (g2 := F0 m 12 ls [.null]) rfl ?_
    refine lv_ifnonnullN hx hb dX5_put_12 ?_
    refine lv_bipush (v := -5) hx hb dX5_put_15 (by decide) ?_
    exact rt_i (r := (-5 : Int32)) C hP hD hS dX5_put_17 (rw_end h)
  | some j12 =>
    replace h := oc_s h
    have hl : lv_has ls 6 [(4, .ref (ad j12)), (0, .ref (ad 0)), (1, .int x1), (2, .int x2), (3, .int x3)] := hl
    refine W.eq (g2 := F0 m 12 ls [.ref (ad j12)]) rfl ?_
    refine lv_ifnonnull (tgt := 18) hx hb dX5_put_12 (by decide) ?_
    refine lv_iload_n hx hb dX5_put_18 rfl (lv_at hl 4 rfl) ?_
    refine lv_if_lt (tgt := 32) hx hb dX5_put_19 (by decide) (fun c19 => ?_) (fun c19 => ?_)
    · replace h := it_t c19 h
      refine lv_bipush (v := -7) hx hb dX5_put_32 (by decide) ?_
      exact rt_i (r := (-7 : Int32)) C hP hD hS dX5_put_34 (rw_end h)
    · replace h := it_f c19 h
      refine lv_iload_n hx hb dX5_put_22 rfl (lv_at hl 4 rfl) ?_
      refine lv_aload hx hb dX5_put_23 (lv_at hl 0 rfl) ?_
      refine lv_iload_n hx hb dX5_put_25 rfl (lv_at hl 3 rfl) ?_
      obtain ⟨gk1, h⟩ := gd_of h
      obtain ⟨r26, g26, h⟩ := bd_of h
      refine call_iV (As := [.int x2]) (rest := [.int x3]) C hP hD hS (c_X2_bound (isK_of gk1) g26) (p_2 (isK_of gk1)) ⟨2, _, _, ent_2 (isK_of gk1), rfl, rfl⟩ (gV wd_510 wd_511 wd_512 wd_66 wd_513) ev_X2_bound ⟨rfl, rfl⟩ ⟨Nat.le_of_ble_eq_true rfl, Nat.le_of_ble_eq_true rfl⟩ hl.1 rfl (Nat.le_of_ble_eq_true rfl) dX5_put_26 (fun H locs hP hD hS => ?_)
      refine lv_icmp_lt (tgt := 35) hx hb dX5_put_29 (by decide) (fun c29 => ?_) (fun c29 => ?_)
      · replace h := it_t c29 h
        refine lv_aload hx hb dX5_put_35 (lv_at hl 0 rfl) ?_
        refine lv_iload_n hx hb dX5_put_37 rfl (lv_at hl 3 rfl) ?_
        obtain ⟨r38, g38, h⟩ := bd_of h
        refine call_iV (As := [.int x2]) (rest := []) C hP hD hS (c_X2_part (isK_of gk1) g38) (p_2 (isK_of gk1)) ⟨2, _, _, ent_2 (isK_of gk1), rfl, rfl⟩ (gV wd_514 wd_515 wd_516 wd_66 wd_517) ev_X2_part ⟨rfl, rfl⟩ ⟨Nat.le_of_ble_eq_true rfl, Nat.le_of_ble_eq_true rfl⟩ hl.1 rfl (Nat.le_of_ble_eq_true rfl) dX5_put_38 (fun H locs hP hD hS => ?_)
        refine lv_istore (lv' := [(5, .int r38), (4, .ref (ad j12)), (0, .ref (ad 0)), (1, .int x1), (2, .int x2), (3, .int x3)]) hx hb dX5_put_41 hl (by decide) rfl (fun ls hl => ?_)
        refine lv_aload hx hb dX5_put_43 (lv_at hl 1 rfl) ?_
        refine lv_iload_n hx hb dX5_put_45 rfl (lv_at hl 4 rfl) ?_
        refine lv_iload_n hx hb dX5_put_46 rfl (lv_at hl 5 rfl) ?_
        obtain ⟨M47, g47, h⟩ := bd_of h
        refine call_vV (As := [.int x2, .int x3]) (rest := []) C hP hD hS (c_X2_become (isK_of gk1) g47) (p_2 (isK_of gk1)) ⟨2, _, _, ent_2 (isK_of gk1), rfl, rfl⟩ (gV wd_518 wd_519 wd_520 wd_66 wd_521) ev_X2_become ⟨rfl, rfl⟩ ⟨Nat.le_of_ble_eq_true rfl, Nat.le_of_ble_eq_true rfl⟩ hl.1 rfl (Nat.le_of_ble_eq_true rfl) dX5_put_47 (fun H locs hP hD hS => ?_)
        refine lv_iload hx hb dX5_put_50 (lv_at hl 0 rfl) ?_
        exact rt_i (r := r38) C hP hD hS dX5_put_52 (rw_end h)
      · replace h := it_f c29 h
        refine lv_bipush (v := -7) hx hb dX5_put_32 (by decide) ?_
        exact rt_i (r := (-7 : Int32)) C hP hD hS dX5_put_34 (rw_end h)
def f_X5_put (x1 : Int32) (x2 : Int32) (x3 : Int32) (M : Mem) : Option (Int32 × Mem) := b_X5_put_0 x1 x2 x3 M
theorem c_X5_put {l : Launch} {D : va_G} {cy : Nat → ClassId} {ad : Nat → Nat} {zz : (Nat → Nat) × (Nat → Nat)} {x1 : Int32} {x2 : Int32} {x3 : Int32} {M : Mem} {rr : Int32} {M' : Mem} (h : f_X5_put x1 x2 x3 M = some (rr, M')) : CTi l D cy ad zz 0 82 yX5_put (.code yX5_put cX5_put 6 (some .int) :: tb) ({ frames := 1, cells := 0, slots := 0, locals := 22 } : Room) [.ref (ad 0), .int x1, .int x2, .int x3] M rr M' := by
  intro sz
  refine CX.of (by decide +kernel) (fun p e s m args below meth c H ls C hP hD hS hl => ?_) (Nat.le_of_ble_eq_true rfl)
  exact w_X5_put_0 C hP hD hS hl h
theorem ev_X5_put : yX5_put.cls = RX5 ∧ yX5_put.cls ≠ "java/lang/invoke/MethodHandle" ∧ yX5_put.cls ≠ "java/lang/invoke/VarHandle" ∧ (parseMethodDescriptor yX5_put.desc).map (fun d => d.parameters.length) = some 3 := by decide +kernel
def b_X5_told_76 (N : Nat) (x1 : Int32) (x2 : Int32) (j3 : Nat) (M : Mem) : Option (Int32 × Mem) := gd (isK j3 2) ((f_X2_part j3 x2 M).bind fun r78 => some (r78, M))
set_option maxHeartbeats 4000000 in
set_option maxRecDepth 100000 in
theorem w_X5_told_76 (C : CX p s m args meth c cX5_told 4 (some .int) RX5 D cy ad zz 0 82 A) {N : Nat} {M : Mem} {x1 : Int32} {x2 : Int32} {rr : Int32} {M' : Mem} {j3 : Nat} {H : Heap} {locs : List Loc} (hP : va_P D vwCl (pool cy ad 0 82 M) H) (hD : va_D A (pool cy ad 0 82 M)) (hS : va_S A s.heap H locs) {ls : Array Slot} (hl : lv_has ls 4 [(2, .int x2), (3, .ref (ad j3))]) (h : b_X5_told_76 N x1 x2 j3 M = some (rr, M')) : W p l e ({ frames := 4, cells := 0, slots := 0, locals := 93 } : Room) s m args below meth c H locs 0 0 (MQ below (va_Qi (fun (x : Int32) (_ : Unit) => x = rr) (fun _ t => PA D cy ad 0 82 A M' t) A) args s 0 0 A) (F0 m 76 ls []) := by
  obtain ⟨hx, hb, hml, hown, hts, hr, hlk, hK, hN, hA, hX⟩ := id C
  unfold b_X5_told_76 at h
  refine lv_aload_n hx hb dX5_told_76 rfl (lv_at hl 1 rfl) ?_
  refine lv_iload_n hx hb dX5_told_77 rfl (lv_at hl 0 rfl) ?_
  obtain ⟨gk1, h⟩ := gd_of h
  obtain ⟨r78, g78, h⟩ := bd_of h
  refine call_iV (As := [.int x2]) (rest := []) C hP hD hS (c_X2_part (isK_of gk1) g78) (p_2 (isK_of gk1)) ⟨2, _, _, ent_2 (isK_of gk1), rfl, rfl⟩ (gV wd_514 wd_515 wd_516 wd_66 wd_517) ev_X2_part ⟨rfl, rfl⟩ ⟨Nat.le_of_ble_eq_true rfl, Nat.le_of_ble_eq_true rfl⟩ hl.1 rfl (Nat.le_of_ble_eq_true rfl) dX5_told_78 (fun H locs hP hD hS => ?_)
  exact rt_i (r := r78) C hP hD hS dX5_told_81 (rw_end h)
def b_X5_told_0 (N : Nat) (x1 : Int32) (x2 : Int32) (M : Mem) : Option (Int32 × Mem) := (f_X4_numbered 1 x1 M).bind fun r5 => (oc r5 (some ((-5000 : Int32), M)) (fun (j10 : Nat) => (if x2 = 0 then b_X5_told_76 N x1 x2 j10 M else (if x2 = 1 then b_X5_told_76 N x1 x2 j10 M else (if x2 = 2 then b_X5_told_76 N x1 x2 j10 M else (if x2 = 3 then b_X5_told_76 N x1 x2 j10 M else (if x2 = 4 then b_X5_told_76 N x1 x2 j10 M else (if x2 = 5 then gd (isK j10 2) (some ((FI M j10 0), M)) else (if x2 = 6 then gd (isK j10 2) (some ((FI M j10 1), M)) else (if x2 = 7 then (f_X5_theLaw M).bind fun r94 => gd (isK j10 2) (gd (isK r94 3) (bd2 (f_X2_goesBy N j10 r94 M) fun r97 M97 => some (r97, M97))) else (if x2 = 8 then (f_X5_theLaw M).bind fun r103 => gd (isK j10 2) (gd (isK r103 3) (bd2 (f_X2_mindsBy N j10 r103 M) fun r106 M106 => some (r106, M106))) else (if x2 = 9 then (f_X5_theLaw M).bind fun r112 => gd (isK j10 2) (gd (isK r112 3) (bd2 (f_X2_wearsBy N j10 r112 (FI M 1 1) M) fun r122 M122 => some (r122, M122))) else (if x2 = 10 then gd (isK j10 2) (some ((FI M j10 7), M)) else (if x2 < (20 : Int32) then some ((-7000 : Int32), M) else gd (isK j10 2) ((if (FI M j10 7) ≤ (x2 - (20 : Int32)) then some ((-7000 : Int32), M) else (f_X2_stitchAt j10 (x2 - (20 : Int32)) M).bind fun r153 => some (r153, M)))))))))))))))))
set_option maxHeartbeats 4000000 in
set_option maxRecDepth 100000 in
theorem w_X5_told_0 (C : CX p s m args meth c cX5_told 4 (some .int) RX5 D cy ad zz 0 82 A) {N : Nat} {M : Mem} {x1 : Int32} {x2 : Int32} {rr : Int32} {M' : Mem} {H : Heap} {locs : List Loc} (hP : va_P D vwCl (pool cy ad 0 82 M) H) (hD : va_D A (pool cy ad 0 82 M)) (hS : va_S A s.heap H locs) {ls : Array Slot} (hl : lv_has ls 4 [(0, .ref (ad 0)), (1, .int x1), (2, .int x2)]) (h : b_X5_told_0 N x1 x2 M = some (rr, M')) : W p l e ({ frames := 4, cells := 0, slots := 0, locals := 93 } : Room) s m args below meth c H locs 0 0 (MQ below (va_Qi (fun (x : Int32) (_ : Unit) => x = rr) (fun _ t => PA D cy ad 0 82 A M' t) A) args s 0 0 A) (F0 m 0 ls []) := by
  obtain ⟨hx, hb, hml, hown, hts, hr, hlk, hK, hN, hA, hX⟩ := id C
  unfold b_X5_told_0 at h
  refine lv_aload_n hx hb dX5_told_0 rfl (lv_at hl 0 rfl) ?_
  refine gf_5_0 C hP (iL (by decide)) (by decide) wd_374 dX5_told_1 ?_
  refine lv_iload_n hx hb dX5_told_4 rfl (lv_at hl 1 rfl) ?_
  obtain ⟨r5, g5, h⟩ := bd_of h
  refine call_qV (As := [.int x1]) (rest := []) C hP hD hS (c_X4_numbered (by decide) g5) (iL (by decide)) ⟨4, _, _, ent_4 (by decide), rfl, rfl⟩ (gV wd_455 wd_456 wd_457 wd_65 wd_458) ev_X4_numbered ⟨rfl, rfl⟩ ⟨Nat.le_of_ble_eq_true rfl, Nat.le_of_ble_eq_true rfl⟩ hl.1 rfl (Nat.le_of_ble_eq_true rfl) dX5_told_5 (fun H locs hP hD hS => ?_)
  refine nq_astore_n (lv' := [(3, va_re ad r5), (0, .ref (ad 0)), (1, .int x1), (2, .int x2)]) hx hb dX5_told_8 rfl hl (by decide) rfl (fun ls hl => ?_)
  refine nq_aload_n hx hb dX5_told_9 rfl (lv_at hl 0 rfl) ?_
  cases r5 with
  | none =>
    replace h := oc_n h
    have hl : lv_has ls 4 [(3, .null), (0, .ref (ad 0)), (1, .int x1), (2, .int x2)] := hl
    refine W.eq (g2 := F0 m 10 ls [.null]) rfl ?_
    refine lv_ifnonnullN hx hb dX5_told_10 ?_
    refine lv_sipush (v := -5000) hx hb dX5_told_13 (by decide) ?_
    exact rt_i (r := (-5000 : Int32)) C hP hD hS dX5_told_16 (rw_end h)
  | some j10 =>
    replace h := oc_s h
    have hl : lv_has ls 4 [(3, .ref (ad j10)), (0, .ref (ad 0)), (1, .int x1), (2, .int x2)] := hl
    refine W.eq (g2 := F0 m 10 ls [.ref (ad j10)]) rfl ?_
    refine lv_ifnonnull (tgt := 17) hx hb dX5_told_10 (by decide) ?_
    refine lv_iload_n hx hb dX5_told_17 rfl (lv_at hl 3 rfl) ?_
    by_cases c18_0 : x2 = 0
    · replace h := it_t c18_0 h
      refine lv_tableIn (off := 58) (tgt := 76) hx hb dX5_told_18 (by rw [c18_0]; decide) (by rw [c18_0]; decide) (by rw [c18_0]; rfl) (by decide) ?_
      exact w_X5_told_76 C hP hD hS (lv_sub hl [3, 0] rfl) h
    · replace h := it_f c18_0 h
      by_cases c18_1 : x2 = 1
      · replace h := it_t c18_1 h
        refine lv_tableIn (off := 58) (tgt := 76) hx hb dX5_told_18 (by rw [c18_1]; decide) (by rw [c18_1]; decide) (by rw [c18_1]; rfl) (by decide) ?_
        exact w_X5_told_76 C hP hD hS (lv_sub hl [3, 0] rfl) h
      · replace h := it_f c18_1 h
        by_cases c18_2 : x2 = 2
        · replace h := it_t c18_2 h
          refine lv_tableIn (off := 58) (tgt := 76) hx hb dX5_told_18 (by rw [c18_2]; decide) (by rw [c18_2]; decide) (by rw [c18_2]; rfl) (by decide) ?_
          exact w_X5_told_76 C hP hD hS (lv_sub hl [3, 0] rfl) h
        · replace h := it_f c18_2 h
          by_cases c18_3 : x2 = 3
          · replace h := it_t c18_3 h
            refine lv_tableIn (off := 58) (tgt := 76) hx hb dX5_told_18 (by rw [c18_3]; decide) (by rw [c18_3]; decide) (by rw [c18_3]; rfl) (by decide) ?_
            exact w_X5_told_76 C hP hD hS (lv_sub hl [3, 0] rfl) h
          · replace h := it_f c18_3 h
            by_cases c18_4 : x2 = 4
            · replace h := it_t c18_4 h
              refine lv_tableIn (off := 58) (tgt := 76) hx hb dX5_told_18 (by rw [c18_4]; decide) (by rw [c18_4]; decide) (by rw [c18_4]; rfl) (by decide) ?_
              exact w_X5_told_76 C hP hD hS (lv_sub hl [3, 0] rfl) h
            · replace h := it_f c18_4 h
              by_cases c18_5 : x2 = 5
              · replace h := it_t c18_5 h
                refine lv_tableIn (off := 64) (tgt := 82) hx hb dX5_told_18 (by rw [c18_5]; decide) (by rw [c18_5]; decide) (by rw [c18_5]; rfl) (by decide) ?_
                refine lv_aload_n hx hb dX5_told_82 rfl (lv_at hl 0 rfl) ?_
                obtain ⟨gk1, h⟩ := gd_of h
                refine gf_2_0 C hP (p_2 (isK_of gk1)) (isK_of gk1) wd_101 dX5_told_83 ?_
                exact rt_i (r := (FI M j10 0)) C hP hD hS dX5_told_86 (rw_end h)
              · replace h := it_f c18_5 h
                by_cases c18_6 : x2 = 6
                · replace h := it_t c18_6 h
                  refine lv_tableIn (off := 69) (tgt := 87) hx hb dX5_told_18 (by rw [c18_6]; decide) (by rw [c18_6]; decide) (by rw [c18_6]; rfl) (by decide) ?_
                  refine lv_aload_n hx hb dX5_told_87 rfl (lv_at hl 0 rfl) ?_
                  obtain ⟨gk2, h⟩ := gd_of h
                  refine gf_2_1 C hP (p_2 (isK_of gk2)) (isK_of gk2) wd_103 dX5_told_88 ?_
                  exact rt_i (r := (FI M j10 1)) C hP hD hS dX5_told_91 (rw_end h)
                · replace h := it_f c18_6 h
                  by_cases c18_7 : x2 = 7
                  · replace h := it_t c18_7 h
                    refine lv_tableIn (off := 74) (tgt := 92) hx hb dX5_told_18 (by rw [c18_7]; decide) (by rw [c18_7]; decide) (by rw [c18_7]; rfl) (by decide) ?_
                    refine lv_aload_n hx hb dX5_told_92 rfl (lv_at hl 0 rfl) ?_
                    refine lv_aload_n hx hb dX5_told_93 rfl (lv_at hl 1 rfl) ?_
                    obtain ⟨r94, g94, h⟩ := bd_of h
                    refine call_rV (As := []) (rest := [.ref (ad j10)]) C hP hD hS (c_X5_theLaw g94) (iL (by decide)) ⟨5, _, _, ent_5 (by decide), rfl, rfl⟩ (gV wd_459 wd_461 wd_13 wd_64 wd_462) ev_X5_theLaw ⟨rfl, rfl⟩ ⟨Nat.le_of_ble_eq_true rfl, Nat.le_of_ble_eq_true rfl⟩ hl.1 rfl (Nat.le_of_ble_eq_true rfl) dX5_told_94 (fun H locs hP hD hS => ?_)
                    obtain ⟨gk3, h⟩ := gd_of h
                    obtain ⟨gk4, h⟩ := gd_of h
                    obtain ⟨r97, M97, g97, h⟩ := bd2_of h
                    refine call_iV (As := [.ref (ad r94)]) (rest := []) C hP hD hS (c_X2_goesBy (isK_of gk3) (isK_of gk4) g97) (p_2 (isK_of gk3)) ⟨2, _, _, ent_2 (isK_of gk3), rfl, rfl⟩ (gV wd_526 wd_527 wd_528 wd_66 wd_529) ev_X2_goesBy ⟨rfl, rfl⟩ ⟨Nat.le_of_ble_eq_true rfl, Nat.le_of_ble_eq_true rfl⟩ hl.1 rfl (Nat.le_of_ble_eq_true rfl) dX5_told_97 (fun H locs hP hD hS => ?_)
                    exact rt_i (r := r97) C hP hD hS dX5_told_100 (rw_end h)
                  · replace h := it_f c18_7 h
                    by_cases c18_8 : x2 = 8
                    · replace h := it_t c18_8 h
                      refine lv_tableIn (off := 83) (tgt := 101) hx hb dX5_told_18 (by rw [c18_8]; decide) (by rw [c18_8]; decide) (by rw [c18_8]; rfl) (by decide) ?_
                      refine lv_aload_n hx hb dX5_told_101 rfl (lv_at hl 0 rfl) ?_
                      refine lv_aload_n hx hb dX5_told_102 rfl (lv_at hl 1 rfl) ?_
                      obtain ⟨r103, g103, h⟩ := bd_of h
                      refine call_rV (As := []) (rest := [.ref (ad j10)]) C hP hD hS (c_X5_theLaw g103) (iL (by decide)) ⟨5, _, _, ent_5 (by decide), rfl, rfl⟩ (gV wd_459 wd_461 wd_13 wd_64 wd_462) ev_X5_theLaw ⟨rfl, rfl⟩ ⟨Nat.le_of_ble_eq_true rfl, Nat.le_of_ble_eq_true rfl⟩ hl.1 rfl (Nat.le_of_ble_eq_true rfl) dX5_told_103 (fun H locs hP hD hS => ?_)
                      obtain ⟨gk5, h⟩ := gd_of h
                      obtain ⟨gk6, h⟩ := gd_of h
                      obtain ⟨r106, M106, g106, h⟩ := bd2_of h
                      refine call_iV (As := [.ref (ad r103)]) (rest := []) C hP hD hS (c_X2_mindsBy (isK_of gk5) (isK_of gk6) g106) (p_2 (isK_of gk5)) ⟨2, _, _, ent_2 (isK_of gk5), rfl, rfl⟩ (gV wd_536 wd_537 wd_538 wd_66 wd_539) ev_X2_mindsBy ⟨rfl, rfl⟩ ⟨Nat.le_of_ble_eq_true rfl, Nat.le_of_ble_eq_true rfl⟩ hl.1 rfl (Nat.le_of_ble_eq_true rfl) dX5_told_106 (fun H locs hP hD hS => ?_)
                      exact rt_i (r := r106) C hP hD hS dX5_told_109 (rw_end h)
                    · replace h := it_f c18_8 h
                      by_cases c18_9 : x2 = 9
                      · replace h := it_t c18_9 h
                        refine lv_tableIn (off := 92) (tgt := 110) hx hb dX5_told_18 (by rw [c18_9]; decide) (by rw [c18_9]; decide) (by rw [c18_9]; rfl) (by decide) ?_
                        refine lv_aload_n hx hb dX5_told_110 rfl (lv_at hl 0 rfl) ?_
                        refine lv_aload_n hx hb dX5_told_111 rfl (lv_at hl 1 rfl) ?_
                        obtain ⟨r112, g112, h⟩ := bd_of h
                        refine call_rV (As := []) (rest := [.ref (ad j10)]) C hP hD hS (c_X5_theLaw g112) (iL (by decide)) ⟨5, _, _, ent_5 (by decide), rfl, rfl⟩ (gV wd_459 wd_461 wd_13 wd_64 wd_462) ev_X5_theLaw ⟨rfl, rfl⟩ ⟨Nat.le_of_ble_eq_true rfl, Nat.le_of_ble_eq_true rfl⟩ hl.1 rfl (Nat.le_of_ble_eq_true rfl) dX5_told_112 (fun H locs hP hD hS => ?_)
                        refine lv_aload_n hx hb dX5_told_115 rfl (lv_at hl 1 rfl) ?_
                        refine gf_5_0 C hP (iL (by decide)) (by decide) wd_374 dX5_told_116 ?_
                        refine gf_4_1 C hP (iL (by decide)) (by decide) wd_145 dX5_told_119 ?_
                        obtain ⟨gk7, h⟩ := gd_of h
                        obtain ⟨gk8, h⟩ := gd_of h
                        obtain ⟨r122, M122, g122, h⟩ := bd2_of h
                        refine call_iV (As := [.ref (ad r112), .int (FI M 1 1)]) (rest := []) C hP hD hS (c_X2_wearsBy (isK_of gk7) (isK_of gk8) g122) (p_2 (isK_of gk7)) ⟨2, _, _, ent_2 (isK_of gk7), rfl, rfl⟩ (gV wd_540 wd_541 wd_542 wd_66 wd_543) ev_X2_wearsBy ⟨rfl, rfl⟩ ⟨Nat.le_of_ble_eq_true rfl, Nat.le_of_ble_eq_true rfl⟩ hl.1 rfl (Nat.le_of_ble_eq_true rfl) dX5_told_122 (fun H locs hP hD hS => ?_)
                        exact rt_i (r := r122) C hP hD hS dX5_told_125 (rw_end h)
                      · replace h := it_f c18_9 h
                        by_cases c18_10 : x2 = 10
                        · replace h := it_t c18_10 h
                          refine lv_tableIn (off := 108) (tgt := 126) hx hb dX5_told_18 (by rw [c18_10]; decide) (by rw [c18_10]; decide) (by rw [c18_10]; rfl) (by decide) ?_
                          refine lv_aload_n hx hb dX5_told_126 rfl (lv_at hl 0 rfl) ?_
                          obtain ⟨gk9, h⟩ := gd_of h
                          refine gf_2_7 C hP (p_2 (isK_of gk9)) (isK_of gk9) wd_116 dX5_told_127 ?_
                          exact rt_i (r := (FI M j10 7)) C hP hD hS dX5_told_130 (rw_end h)
                        · replace h := it_f c18_10 h
                          have e18_0 : x2.toInt ≠ 0 := fun q => c18_0 (Int32.toInt_inj.mp (q.trans (by decide)))
                          have e18_1 : x2.toInt ≠ 1 := fun q => c18_1 (Int32.toInt_inj.mp (q.trans (by decide)))
                          have e18_2 : x2.toInt ≠ 2 := fun q => c18_2 (Int32.toInt_inj.mp (q.trans (by decide)))
                          have e18_3 : x2.toInt ≠ 3 := fun q => c18_3 (Int32.toInt_inj.mp (q.trans (by decide)))
                          have e18_4 : x2.toInt ≠ 4 := fun q => c18_4 (Int32.toInt_inj.mp (q.trans (by decide)))
                          have e18_5 : x2.toInt ≠ 5 := fun q => c18_5 (Int32.toInt_inj.mp (q.trans (by decide)))
                          have e18_6 : x2.toInt ≠ 6 := fun q => c18_6 (Int32.toInt_inj.mp (q.trans (by decide)))
                          have e18_7 : x2.toInt ≠ 7 := fun q => c18_7 (Int32.toInt_inj.mp (q.trans (by decide)))
                          have e18_8 : x2.toInt ≠ 8 := fun q => c18_8 (Int32.toInt_inj.mp (q.trans (by decide)))
                          have e18_9 : x2.toInt ≠ 9 := fun q => c18_9 (Int32.toInt_inj.mp (q.trans (by decide)))
                          have e18_10 : x2.toInt ≠ 10 := fun q => c18_10 (Int32.toInt_inj.mp (q.trans (by decide)))
                          refine lv_tableOut (tgt := 131) hx hb dX5_told_18 (by omega) (by decide) ?_
                          refine lv_iload_n hx hb dX5_told_131 rfl (lv_at hl 3 rfl) ?_
                          refine lv_bipush (v := 20) hx hb dX5_told_132 (by decide) ?_
                          refine lv_icmp_lt (tgt := 159) hx hb dX5_told_134 (by decide) (fun c134 => ?_) (fun c134 => ?_)
                          · replace h := it_t c134 h
                            refine lv_sipush (v := -7000) hx hb dX5_told_159 (by decide) ?_
                            exact rt_i (r := (-7000 : Int32)) C hP hD hS dX5_told_162 (rw_end h)
                          · replace h := it_f c134 h
                            refine lv_iload_n hx hb dX5_told_137 rfl (lv_at hl 3 rfl) ?_
                            refine lv_bipush (v := 20) hx hb dX5_told_138 (by decide) ?_
                            refine lv_isub hx hb dX5_told_140 ?_
                            refine lv_aload_n hx hb dX5_told_141 rfl (lv_at hl 0 rfl) ?_
                            obtain ⟨gk10, h⟩ := gd_of h
                            refine gf_2_7 C hP (p_2 (isK_of gk10)) (isK_of gk10) wd_116 dX5_told_142 ?_
                            refine lv_icmp_ge (tgt := 159) hx hb dX5_told_145 (by decide) (fun c145 => ?_) (fun c145 => ?_)
                            · replace h := it_t c145 h
                              refine lv_sipush (v := -7000) hx hb dX5_told_159 (by decide) ?_
                              exact rt_i (r := (-7000 : Int32)) C hP hD hS dX5_told_162 (rw_end h)
                            · replace h := it_f c145 h
                              refine lv_aload_n hx hb dX5_told_148 rfl (lv_at hl 0 rfl) ?_
                              refine lv_iload_n hx hb dX5_told_149 rfl (lv_at hl 3 rfl) ?_
                              refine lv_bipush (v := 20) hx hb dX5_told_150 (by decide) ?_
                              refine lv_isub hx hb dX5_told_152 ?_
                              obtain ⟨r153, g153, h⟩ := bd_of h
                              refine call_iV (As := [.int (x2 - (20 : Int32))]) (rest := []) C hP hD hS (c_X2_stitchAt (isK_of gk10) g153) (p_2 (isK_of gk10)) ⟨2, _, _, ent_2 (isK_of gk10), rfl, rfl⟩ (gV wd_544 wd_545 wd_546 wd_66 wd_547) ev_X2_stitchAt ⟨rfl, rfl⟩ ⟨Nat.le_of_ble_eq_true rfl, Nat.le_of_ble_eq_true rfl⟩ hl.1 rfl (Nat.le_of_ble_eq_true rfl) dX5_told_153 (fun H locs hP hD hS => ?_)
                              refine lv_goto (tgt := 162) hx hb dX5_told_156 (by decide) ?_
                              exact rt_i (r := r153) C hP hD hS dX5_told_162 (rw_end h)
def f_X5_told (N : Nat) (x1 : Int32) (x2 : Int32) (M : Mem) : Option (Int32 × Mem) := b_X5_told_0 N x1 x2 M
theorem c_X5_told {l : Launch} {D : va_G} {cy : Nat → ClassId} {ad : Nat → Nat} {zz : (Nat → Nat) × (Nat → Nat)} {N : Nat} {x1 : Int32} {x2 : Int32} {M : Mem} {rr : Int32} {M' : Mem} (h : f_X5_told N x1 x2 M = some (rr, M')) : CTi l D cy ad zz 0 82 yX5_told (.code yX5_told cX5_told 4 (some .int) :: tb) ({ frames := 4, cells := 0, slots := 0, locals := 93 } : Room) [.ref (ad 0), .int x1, .int x2] M rr M' := by
  intro sz
  refine CX.of (by decide +kernel) (fun p e s m args below meth c H ls C hP hD hS hl => ?_) (Nat.le_of_ble_eq_true rfl)
  exact w_X5_told_0 C hP hD hS hl h
theorem ev_X5_told : yX5_told.cls = RX5 ∧ yX5_told.cls ≠ "java/lang/invoke/MethodHandle" ∧ yX5_told.cls ≠ "java/lang/invoke/VarHandle" ∧ (parseMethodDescriptor yX5_told.desc).map (fun d => d.parameters.length) = some 2 := by decide +kernel
def b_X5_isSheet_0 (M : Mem) (x0 : Int32) : Option (Bool) := (if x0 < 0 then some false else (if (4 : Int32) ≤ x0 then some false else some true))
set_option maxHeartbeats 4000000 in
set_option maxRecDepth 100000 in
theorem w_X5_isSheet_0 (C : CX p s m args meth c cX5_isSheet 1 (some .boolean) RX5 D cy ad zz 0 82 A) {M : Mem} {x0 : Int32} {rr : Bool} {H : Heap} {locs : List Loc} (hP : va_P D vwCl (pool cy ad 0 82 M) H) (hD : va_D A (pool cy ad 0 82 M)) (hS : va_S A s.heap H locs) {ls : Array Slot} (hl : lv_has ls 1 [(0, .int x0)]) (h : b_X5_isSheet_0 M x0 = some rr) : W p l e ({ frames := 0, cells := 0, slots := 0, locals := 0 } : Room) s m args below meth c H locs 0 0 (MQ below (va_Qi (fun (x : Int32) (_ : Unit) => x = b2i rr) (fun _ t => PA D cy ad 0 82 A M t) A) args s 0 0 A) (F0 m 0 ls []) := by
  obtain ⟨hx, hb, hml, hown, hts, hr, hlk, hK, hN, hA, hX⟩ := id C
  unfold b_X5_isSheet_0 at h
  refine lv_iload_n hx hb dX5_isSheet_0 rfl (lv_at hl 0 rfl) ?_
  refine lv_if_lt (tgt := 13) hx hb dX5_isSheet_1 (by decide) (fun c1 => ?_) (fun c1 => ?_)
  · replace h := it_t c1 h
    refine lv_iconst (v := 0) hx hb dX5_isSheet_13 (by decide) ?_
    exact rt_z (r := false) C hP hD hS dX5_isSheet_14 ⟨Option.some.inj h, rfl⟩
  · replace h := it_f c1 h
    refine lv_iload_n hx hb dX5_isSheet_4 rfl (lv_at hl 0 rfl) ?_
    refine lv_iconst (v := 4) hx hb dX5_isSheet_5 (by decide) ?_
    refine lv_icmp_ge (tgt := 13) hx hb dX5_isSheet_6 (by decide) (fun c6 => ?_) (fun c6 => ?_)
    · replace h := it_t c6 h
      refine lv_iconst (v := 0) hx hb dX5_isSheet_13 (by decide) ?_
      exact rt_z (r := false) C hP hD hS dX5_isSheet_14 ⟨Option.some.inj h, rfl⟩
    · replace h := it_f c6 h
      refine lv_iconst (v := 1) hx hb dX5_isSheet_9 (by decide) ?_
      refine lv_goto (tgt := 14) hx hb dX5_isSheet_10 (by decide) ?_
      exact rt_z (r := true) C hP hD hS dX5_isSheet_14 ⟨Option.some.inj h, rfl⟩
def f_X5_isSheet (x0 : Int32) (M : Mem) : Option (Bool) := b_X5_isSheet_0 M x0
theorem c_X5_isSheet {l : Launch} {D : va_G} {cy : Nat → ClassId} {ad : Nat → Nat} {zz : (Nat → Nat) × (Nat → Nat)} {x0 : Int32} {M : Mem} {rr : Bool} (h : f_X5_isSheet x0 M = some rr) : CTi l D cy ad zz 0 82 yX5_isSheet (.code yX5_isSheet cX5_isSheet 1 (some .boolean) :: tb) ({ frames := 0, cells := 0, slots := 0, locals := 0 } : Room) [.int x0] M (b2i rr) M := by
  intro sz
  refine CX.of (by decide +kernel) (fun p e s m args below meth c H ls C hP hD hS hl => ?_) (Nat.le_of_ble_eq_true rfl)
  exact w_X5_isSheet_0 C hP hD hS hl h
theorem es_X5_isSheet : yX5_isSheet.cls ≠ "java/lang/invoke/MethodHandle" ∧ yX5_isSheet.cls ≠ "java/lang/invoke/VarHandle" ∧ (parseMethodDescriptor yX5_isSheet.desc).map (fun d => d.parameters.length) = some 1 := by decide +kernel
def b_X5_sheetRefusal_0 (M : Mem) (x1 : Int32) : Option (Int32) := (f_X5_isSheet x1 M).bind fun r1 => (if r1 = true then gd (inb x1 (len 73)) (gd (isK (AR 73 x1.toNatClampNeg) 1) ((if (FI M (AR 73 x1.toNatClampNeg) 0) = (-1 : Int32) then some (-11 : Int32) else some (0 : Int32)))) else some (-2 : Int32))
set_option maxHeartbeats 4000000 in
set_option maxRecDepth 100000 in
theorem w_X5_sheetRefusal_0 (C : CX p s m args meth c cX5_sheetRefusal 2 (some .int) RX5 D cy ad zz 0 82 A) {M : Mem} {x1 : Int32} {rr : Int32} {H : Heap} {locs : List Loc} (hP : va_P D vwCl (pool cy ad 0 82 M) H) (hD : va_D A (pool cy ad 0 82 M)) (hS : va_S A s.heap H locs) {ls : Array Slot} (hl : lv_has ls 2 [(0, .ref (ad 0)), (1, .int x1)]) (h : b_X5_sheetRefusal_0 M x1 = some rr) : W p l e ({ frames := 1, cells := 0, slots := 0, locals := 20 } : Room) s m args below meth c H locs 0 0 (MQ below (va_Qi (fun (x : Int32) (_ : Unit) => x = rr) (fun _ t => PA D cy ad 0 82 A M t) A) args s 0 0 A) (F0 m 0 ls []) := by
  obtain ⟨hx, hb, hml, hown, hts, hr, hlk, hK, hN, hA, hX⟩ := id C
  unfold b_X5_sheetRefusal_0 at h
  refine lv_iload_n hx hb dX5_sheetRefusal_0 rfl (lv_at hl 1 rfl) ?_
  obtain ⟨r1, g1, h⟩ := bd_of h
  refine call_iS (As := [.int x1]) (rest := []) C hP hD hS (c_X5_isSheet g1) (gS wd_556 wd_557 wd_64 wd_558) es_X5_isSheet ⟨rfl, rfl⟩ ⟨Nat.le_of_ble_eq_true rfl, Nat.le_of_ble_eq_true rfl⟩ hl.1 rfl (Nat.le_of_ble_eq_true rfl) dX5_sheetRefusal_1 (fun H locs hP hD hS => ?_)
  refine lv_if_ne (tgt := 10) hx hb dX5_sheetRefusal_4 (by decide) (fun c4 => ?_) (fun c4 => ?_)
  · replace h := it_t (b2i_1 c4) h
    refine lv_aload_n hx hb dX5_sheetRefusal_10 rfl (lv_at hl 0 rfl) ?_
    refine gf_5_7 C hP (iL (by decide)) (by decide) wd_381 dX5_sheetRefusal_11 ?_
    refine lv_iload_n hx hb dX5_sheetRefusal_14 rfl (lv_at hl 1 rfl) ?_
    obtain ⟨gi1, h⟩ := gd_of h
    refine aa_9 C hP (iL (by decide)) (by decide) gi1 dX5_sheetRefusal_15 ?_
    obtain ⟨gk2, h⟩ := gd_of h
    refine gf_1_0 C hP (p_1 (isK_of gk2)) (isK_of gk2) wd_197 dX5_sheetRefusal_16 ?_
    refine lv_iconst (v := -1) hx hb dX5_sheetRefusal_19 (by decide) ?_
    refine lv_icmp_ne (tgt := 28) hx hb dX5_sheetRefusal_20 (by decide) (fun c20 => ?_) (fun c20 => ?_)
    · replace h := it_f c20 h
      refine lv_iconst (v := 0) hx hb dX5_sheetRefusal_28 (by decide) ?_
      exact rt_i (r := (0 : Int32)) C hP hD hS dX5_sheetRefusal_29 ⟨Option.some.inj h, rfl⟩
    · replace h := it_t c20 h
      refine lv_bipush (v := -11) hx hb dX5_sheetRefusal_23 (by decide) ?_
      refine lv_goto (tgt := 29) hx hb dX5_sheetRefusal_25 (by decide) ?_
      exact rt_i (r := (-11 : Int32)) C hP hD hS dX5_sheetRefusal_29 ⟨Option.some.inj h, rfl⟩
  · replace h := it_f (b2i_n c4) h
    refine lv_bipush (v := -2) hx hb dX5_sheetRefusal_7 (by decide) ?_
    exact rt_i (r := (-2 : Int32)) C hP hD hS dX5_sheetRefusal_9 ⟨Option.some.inj h, rfl⟩
def f_X5_sheetRefusal (x1 : Int32) (M : Mem) : Option (Int32) := b_X5_sheetRefusal_0 M x1
theorem c_X5_sheetRefusal {l : Launch} {D : va_G} {cy : Nat → ClassId} {ad : Nat → Nat} {zz : (Nat → Nat) × (Nat → Nat)} {x1 : Int32} {M : Mem} {rr : Int32} (h : f_X5_sheetRefusal x1 M = some rr) : CTi l D cy ad zz 0 82 yX5_sheetRefusal (.code yX5_sheetRefusal cX5_sheetRefusal 2 (some .int) :: tb) ({ frames := 1, cells := 0, slots := 0, locals := 20 } : Room) [.ref (ad 0), .int x1] M rr M := by
  intro sz
  refine CX.of (by decide +kernel) (fun p e s m args below meth c H ls C hP hD hS hl => ?_) (Nat.le_of_ble_eq_true rfl)
  exact w_X5_sheetRefusal_0 C hP hD hS hl h
theorem ev_X5_sheetRefusal : yX5_sheetRefusal.cls = RX5 ∧ yX5_sheetRefusal.cls ≠ "java/lang/invoke/MethodHandle" ∧ yX5_sheetRefusal.cls ≠ "java/lang/invoke/VarHandle" ∧ (parseMethodDescriptor yX5_sheetRefusal.desc).map (fun d => d.parameters.length) = some 1 := by decide +kernel
def b_X5_knit_0 (N : Nat) (x1 : Int32) (x2 : Int32) (M : Mem) : Option (Int32 × Mem) := (f_X5_sheetRefusal x1 M).bind fun r2 => (if r2 = 0 then gd (inb x1 (len 73)) (gd (isK (AR 73 x1.toNatClampNeg) 1) ((f_X1_isSock N (AR 73 x1.toNatClampNeg) M).bind fun r22 => (if r22 = true then (f_X4_numbered 1 x2 M).bind fun r36 => (oc r36 (some ((-5 : Int32), M)) (fun (j43 : Nat) => gd (isK j43 2) ((f_X2_wear N j43 (AR 73 x1.toNatClampNeg) M).bind fun M53 => some ((FI M53 j43 7), M53)))) else some ((-2 : Int32), M)))) else some (r2, M))
set_option maxHeartbeats 4000000 in
set_option maxRecDepth 100000 in
theorem w_X5_knit_0 (C : CX p s m args meth c cX5_knit 6 (some .int) RX5 D cy ad zz 0 82 A) {N : Nat} {M : Mem} {x1 : Int32} {x2 : Int32} {rr : Int32} {M' : Mem} {H : Heap} {locs : List Loc} (hP : va_P D vwCl (pool cy ad 0 82 M) H) (hD : va_D A (pool cy ad 0 82 M)) (hS : va_S A s.heap H locs) {ls : Array Slot} (hl : lv_has ls 6 [(0, .ref (ad 0)), (1, .int x1), (2, .int x2)]) (h : b_X5_knit_0 N x1 x2 M = some (rr, M')) : W p l e ({ frames := 3, cells := 0, slots := 0, locals := 64 } : Room) s m args below meth c H locs 0 0 (MQ below (va_Qi (fun (x : Int32) (_ : Unit) => x = rr) (fun _ t => PA D cy ad 0 82 A M' t) A) args s 0 0 A) (F0 m 0 ls []) := by
  obtain ⟨hx, hb, hml, hown, hts, hr, hlk, hK, hN, hA, hX⟩ := id C
  unfold b_X5_knit_0 at h
  refine lv_aload_n hx hb dX5_knit_0 rfl (lv_at hl 0 rfl) ?_
  refine lv_iload_n hx hb dX5_knit_1 rfl (lv_at hl 1 rfl) ?_
  obtain ⟨r2, g2, h⟩ := bd_of h
  refine call_iV (As := [.int x1]) (rest := []) C hP hD hS (c_X5_sheetRefusal g2) (iL (by decide)) ⟨5, _, _, ent_5 (by decide), rfl, rfl⟩ (gV wd_552 wd_554 wd_16 wd_64 wd_555) ev_X5_sheetRefusal ⟨rfl, rfl⟩ ⟨Nat.le_of_ble_eq_true rfl, Nat.le_of_ble_eq_true rfl⟩ hl.1 rfl (Nat.le_of_ble_eq_true rfl) dX5_knit_2 (fun H locs hP hD hS => ?_)
  refine lv_istore_n (lv' := [(3, .int r2), (0, .ref (ad 0)), (1, .int x1), (2, .int x2)]) hx hb dX5_knit_5 rfl hl (by decide) rfl (fun ls hl => ?_)
  refine lv_iload_n hx hb dX5_knit_6 rfl (lv_at hl 0 rfl) ?_
  refine lv_if_eq (tgt := 12) hx hb dX5_knit_7 (by decide) (fun c7 => ?_) (fun c7 => ?_)
  · replace h := it_t c7 h
    refine lv_aload_n hx hb dX5_knit_12 rfl (lv_at hl 1 rfl) ?_
    refine gf_5_7 C hP (iL (by decide)) (by decide) wd_381 dX5_knit_13 ?_
    refine lv_iload_n hx hb dX5_knit_16 rfl (lv_at hl 2 rfl) ?_
    obtain ⟨gi1, h⟩ := gd_of h
    refine aa_9 C hP (iL (by decide)) (by decide) gi1 dX5_knit_17 ?_
    refine lv_astore (lv' := [(4, .ref (ad (AR 73 x1.toNatClampNeg))), (3, .int r2), (0, .ref (ad 0)), (1, .int x1), (2, .int x2)]) hx hb dX5_knit_18 hl (by decide) rfl (fun ls hl => ?_)
    refine lv_aload hx hb dX5_knit_20 (lv_at hl 0 rfl) ?_
    obtain ⟨gk2, h⟩ := gd_of h
    obtain ⟨r22, g22, h⟩ := bd_of h
    refine call_iV (As := []) (rest := []) C hP hD hS (c_X1_isSock (isK_of gk2) g22) (p_1 (isK_of gk2)) ⟨1, _, _, ent_1 (isK_of gk2), rfl, rfl⟩ (gV wd_559 wd_560 wd_561 wd_68 wd_562) ev_X1_isSock ⟨rfl, rfl⟩ ⟨Nat.le_of_ble_eq_true rfl, Nat.le_of_ble_eq_true rfl⟩ hl.1 rfl (Nat.le_of_ble_eq_true rfl) dX5_knit_22 (fun H locs hP hD hS => ?_)
    refine lv_if_ne (tgt := 31) hx hb dX5_knit_25 (by decide) (fun c25 => ?_) (fun c25 => ?_)
    · replace h := it_t (b2i_1 c25) h
      refine lv_aload_n hx hb dX5_knit_31 rfl (lv_at hl 2 rfl) ?_
      refine gf_5_0 C hP (iL (by decide)) (by decide) wd_374 dX5_knit_32 ?_
      refine lv_iload_n hx hb dX5_knit_35 rfl (lv_at hl 4 rfl) ?_
      obtain ⟨r36, g36, h⟩ := bd_of h
      refine call_qV (As := [.int x2]) (rest := []) C hP hD hS (c_X4_numbered (by decide) g36) (iL (by decide)) ⟨4, _, _, ent_4 (by decide), rfl, rfl⟩ (gV wd_455 wd_456 wd_457 wd_65 wd_458) ev_X4_numbered ⟨rfl, rfl⟩ ⟨Nat.le_of_ble_eq_true rfl, Nat.le_of_ble_eq_true rfl⟩ hl.1 rfl (Nat.le_of_ble_eq_true rfl) dX5_knit_36 (fun H locs hP hD hS => ?_)
      refine nq_astore (lv' := [(5, va_re ad r36), (4, .ref (ad (AR 73 x1.toNatClampNeg))), (3, .int r2), (0, .ref (ad 0)), (1, .int x1), (2, .int x2)]) hx hb dX5_knit_39 hl (by decide) rfl (fun ls hl => ?_)
      refine nq_aload hx hb dX5_knit_41 (lv_at hl 0 rfl) ?_
      cases r36 with
      | none =>
        replace h := oc_n h
        have hl : lv_has ls 6 [(5, .null), (4, .ref (ad (AR 73 x1.toNatClampNeg))), (3, .int r2), (0, .ref (ad 0)), (1, .int x1), (2, .int x2)] := hl
        refine W.eq (g2 := F0 m 43 ls [.null]) rfl ?_
        refine lv_ifnonnullN hx hb dX5_knit_43 ?_
        refine lv_bipush (v := -5) hx hb dX5_knit_46 (by decide) ?_
        exact rt_i (r := (-5 : Int32)) C hP hD hS dX5_knit_48 (rw_end h)
      | some j43 =>
        replace h := oc_s h
        have hl : lv_has ls 6 [(5, .ref (ad j43)), (4, .ref (ad (AR 73 x1.toNatClampNeg))), (3, .int r2), (0, .ref (ad 0)), (1, .int x1), (2, .int x2)] := hl
        refine W.eq (g2 := F0 m 43 ls [.ref (ad j43)]) rfl ?_
        refine lv_ifnonnull (tgt := 49) hx hb dX5_knit_43 (by decide) ?_
        refine lv_aload hx hb dX5_knit_49 (lv_at hl 0 rfl) ?_
        refine lv_aload hx hb dX5_knit_51 (lv_at hl 1 rfl) ?_
        obtain ⟨gk3, h⟩ := gd_of h
        obtain ⟨M53, g53, h⟩ := bd_of h
        refine call_vV (As := [.ref (ad (AR 73 x1.toNatClampNeg))]) (rest := []) C hP hD hS (c_X2_wear (isK_of gk3) (isK_of gk2) g53) (p_2 (isK_of gk3)) ⟨2, _, _, ent_2 (isK_of gk3), rfl, rfl⟩ (gV wd_571 wd_572 wd_573 wd_66 wd_574) ev_X2_wear ⟨rfl, rfl⟩ ⟨Nat.le_of_ble_eq_true rfl, Nat.le_of_ble_eq_true rfl⟩ hl.1 rfl (Nat.le_of_ble_eq_true rfl) dX5_knit_53 (fun H locs hP hD hS => ?_)
        refine lv_aload hx hb dX5_knit_56 (lv_at hl 0 rfl) ?_
        refine gf_2_7 C hP (p_2 (isK_of gk3)) (isK_of gk3) wd_116 dX5_knit_58 ?_
        exact rt_i (r := (FI M53 j43 7)) C hP hD hS dX5_knit_61 (rw_end h)
    · replace h := it_f (b2i_n c25) h
      refine lv_bipush (v := -2) hx hb dX5_knit_28 (by decide) ?_
      exact rt_i (r := (-2 : Int32)) C hP hD hS dX5_knit_30 (rw_end h)
  · replace h := it_f c7 h
    refine lv_iload_n hx hb dX5_knit_10 rfl (lv_at hl 0 rfl) ?_
    exact rt_i (r := r2) C hP hD hS dX5_knit_11 (rw_end h)
def f_X5_knit (N : Nat) (x1 : Int32) (x2 : Int32) (M : Mem) : Option (Int32 × Mem) := b_X5_knit_0 N x1 x2 M
theorem c_X5_knit {l : Launch} {D : va_G} {cy : Nat → ClassId} {ad : Nat → Nat} {zz : (Nat → Nat) × (Nat → Nat)} {N : Nat} {x1 : Int32} {x2 : Int32} {M : Mem} {rr : Int32} {M' : Mem} (h : f_X5_knit N x1 x2 M = some (rr, M')) : CTi l D cy ad zz 0 82 yX5_knit (.code yX5_knit cX5_knit 6 (some .int) :: tb) ({ frames := 3, cells := 0, slots := 0, locals := 64 } : Room) [.ref (ad 0), .int x1, .int x2] M rr M' := by
  intro sz
  refine CX.of (by decide +kernel) (fun p e s m args below meth c H ls C hP hD hS hl => ?_) (Nat.le_of_ble_eq_true rfl)
  exact w_X5_knit_0 C hP hD hS hl h
theorem ev_X5_knit : yX5_knit.cls = RX5 ∧ yX5_knit.cls ≠ "java/lang/invoke/MethodHandle" ∧ yX5_knit.cls ≠ "java/lang/invoke/VarHandle" ∧ (parseMethodDescriptor yX5_knit.desc).map (fun d => d.parameters.length) = some 2 := by decide +kernel
def b_X5_darn_0 (x1 : Int32) (x2 : Int32) (x3 : Int32) (M : Mem) : Option (Int32 × Mem) := (f_X4_numbered 1 x1 M).bind fun r5 => (oc r5 (some ((-5 : Int32), M)) (fun (j12 : Nat) => (if x2 < 0 then some ((-7 : Int32), M) else gd (isK j12 2) ((if (FI M j12 7) ≤ x2 then some ((-7 : Int32), M) else (if x3 < 0 then some ((-7 : Int32), M) else (if x3 < (5 : Int32) then (f_X2_stitchAt j12 x2 M).bind fun r46 => (f_X2_mend j12 x2 x3 M).bind fun M55 => some (r46, M55) else some ((-7 : Int32), M))))))))
set_option maxHeartbeats 4000000 in
set_option maxRecDepth 100000 in
theorem w_X5_darn_0 (C : CX p s m args meth c cX5_darn 6 (some .int) RX5 D cy ad zz 0 82 A) {M : Mem} {x1 : Int32} {x2 : Int32} {x3 : Int32} {rr : Int32} {M' : Mem} {H : Heap} {locs : List Loc} (hP : va_P D vwCl (pool cy ad 0 82 M) H) (hD : va_D A (pool cy ad 0 82 M)) (hS : va_S A s.heap H locs) {ls : Array Slot} (hl : lv_has ls 6 [(0, .ref (ad 0)), (1, .int x1), (2, .int x2), (3, .int x3)]) (h : b_X5_darn_0 x1 x2 x3 M = some (rr, M')) : W p l e ({ frames := 1, cells := 0, slots := 0, locals := 22 } : Room) s m args below meth c H locs 0 0 (MQ below (va_Qi (fun (x : Int32) (_ : Unit) => x = rr) (fun _ t => PA D cy ad 0 82 A M' t) A) args s 0 0 A) (F0 m 0 ls []) := by
  obtain ⟨hx, hb, hml, hown, hts, hr, hlk, hK, hN, hA, hX⟩ := id C
  unfold b_X5_darn_0 at h
  refine lv_aload_n hx hb dX5_darn_0 rfl (lv_at hl 0 rfl) ?_
  refine gf_5_0 C hP (iL (by decide)) (by decide) wd_374 dX5_darn_1 ?_
  refine lv_iload_n hx hb dX5_darn_4 rfl (lv_at hl 1 rfl) ?_
  obtain ⟨r5, g5, h⟩ := bd_of h
  refine call_qV (As := [.int x1]) (rest := []) C hP hD hS (c_X4_numbered (by decide) g5) (iL (by decide)) ⟨4, _, _, ent_4 (by decide), rfl, rfl⟩ (gV wd_455 wd_456 wd_457 wd_65 wd_458) ev_X4_numbered ⟨rfl, rfl⟩ ⟨Nat.le_of_ble_eq_true rfl, Nat.le_of_ble_eq_true rfl⟩ hl.1 rfl (Nat.le_of_ble_eq_true rfl) dX5_darn_5 (fun H locs hP hD hS => ?_)
  refine nq_astore (lv' := [(4, va_re ad r5), (0, .ref (ad 0)), (1, .int x1), (2, .int x2), (3, .int x3)]) hx hb dX5_darn_8 hl (by decide) rfl (fun ls hl => ?_)
  refine nq_aload hx hb dX5_darn_10 (lv_at hl 0 rfl) ?_
  cases r5 with
  | none =>
    replace h := oc_n h
    have hl : lv_has ls 6 [(4, .null), (0, .ref (ad 0)), (1, .int x1), (2, .int x2), (3, .int x3)] := hl
    refine W.eq (g2 := F0 m 12 ls [.null]) rfl ?_
    refine lv_ifnonnullN hx hb dX5_darn_12 ?_
    refine lv_bipush (v := -5) hx hb dX5_darn_15 (by decide) ?_
    exact rt_i (r := (-5 : Int32)) C hP hD hS dX5_darn_17 (rw_end h)
  | some j12 =>
    replace h := oc_s h
    have hl : lv_has ls 6 [(4, .ref (ad j12)), (0, .ref (ad 0)), (1, .int x1), (2, .int x2), (3, .int x3)] := hl
    refine W.eq (g2 := F0 m 12 ls [.ref (ad j12)]) rfl ?_
    refine lv_ifnonnull (tgt := 18) hx hb dX5_darn_12 (by decide) ?_
    refine lv_iload_n hx hb dX5_darn_18 rfl (lv_at hl 3 rfl) ?_
    refine lv_if_lt (tgt := 40) hx hb dX5_darn_19 (by decide) (fun c19 => ?_) (fun c19 => ?_)
    · replace h := it_t c19 h
      refine lv_bipush (v := -7) hx hb dX5_darn_40 (by decide) ?_
      exact rt_i (r := (-7 : Int32)) C hP hD hS dX5_darn_42 (rw_end h)
    · replace h := it_f c19 h
      refine lv_iload_n hx hb dX5_darn_22 rfl (lv_at hl 3 rfl) ?_
      refine lv_aload hx hb dX5_darn_23 (lv_at hl 0 rfl) ?_
      obtain ⟨gk1, h⟩ := gd_of h
      refine gf_2_7 C hP (p_2 (isK_of gk1)) (isK_of gk1) wd_116 dX5_darn_25 ?_
      refine lv_icmp_ge (tgt := 40) hx hb dX5_darn_28 (by decide) (fun c28 => ?_) (fun c28 => ?_)
      · replace h := it_t c28 h
        refine lv_bipush (v := -7) hx hb dX5_darn_40 (by decide) ?_
        exact rt_i (r := (-7 : Int32)) C hP hD hS dX5_darn_42 (rw_end h)
      · replace h := it_f c28 h
        refine lv_iload_n hx hb dX5_darn_31 rfl (lv_at hl 4 rfl) ?_
        refine lv_if_lt (tgt := 40) hx hb dX5_darn_32 (by decide) (fun c32 => ?_) (fun c32 => ?_)
        · replace h := it_t c32 h
          refine lv_bipush (v := -7) hx hb dX5_darn_40 (by decide) ?_
          exact rt_i (r := (-7 : Int32)) C hP hD hS dX5_darn_42 (rw_end h)
        · replace h := it_f c32 h
          refine lv_iload_n hx hb dX5_darn_35 rfl (lv_at hl 4 rfl) ?_
          refine lv_iconst (v := 5) hx hb dX5_darn_36 (by decide) ?_
          refine lv_icmp_lt (tgt := 43) hx hb dX5_darn_37 (by decide) (fun c37 => ?_) (fun c37 => ?_)
          · replace h := it_t c37 h
            refine lv_aload hx hb dX5_darn_43 (lv_at hl 0 rfl) ?_
            refine lv_iload_n hx hb dX5_darn_45 rfl (lv_at hl 3 rfl) ?_
            obtain ⟨r46, g46, h⟩ := bd_of h
            refine call_iV (As := [.int x2]) (rest := []) C hP hD hS (c_X2_stitchAt (isK_of gk1) g46) (p_2 (isK_of gk1)) ⟨2, _, _, ent_2 (isK_of gk1), rfl, rfl⟩ (gV wd_544 wd_545 wd_546 wd_66 wd_547) ev_X2_stitchAt ⟨rfl, rfl⟩ ⟨Nat.le_of_ble_eq_true rfl, Nat.le_of_ble_eq_true rfl⟩ hl.1 rfl (Nat.le_of_ble_eq_true rfl) dX5_darn_46 (fun H locs hP hD hS => ?_)
            refine lv_istore (lv' := [(5, .int r46), (4, .ref (ad j12)), (0, .ref (ad 0)), (1, .int x1), (2, .int x2), (3, .int x3)]) hx hb dX5_darn_49 hl (by decide) rfl (fun ls hl => ?_)
            refine lv_aload hx hb dX5_darn_51 (lv_at hl 1 rfl) ?_
            refine lv_iload_n hx hb dX5_darn_53 rfl (lv_at hl 4 rfl) ?_
            refine lv_iload_n hx hb dX5_darn_54 rfl (lv_at hl 5 rfl) ?_
            obtain ⟨M55, g55, h⟩ := bd_of h
            refine call_vV (As := [.int x2, .int x3]) (rest := []) C hP hD hS (c_X2_mend (isK_of gk1) g55) (p_2 (isK_of gk1)) ⟨2, _, _, ent_2 (isK_of gk1), rfl, rfl⟩ (gV wd_584 wd_577 wd_578 wd_66 wd_579) ev_X2_mend ⟨rfl, rfl⟩ ⟨Nat.le_of_ble_eq_true rfl, Nat.le_of_ble_eq_true rfl⟩ hl.1 rfl (Nat.le_of_ble_eq_true rfl) dX5_darn_55 (fun H locs hP hD hS => ?_)
            refine lv_iload hx hb dX5_darn_58 (lv_at hl 0 rfl) ?_
            exact rt_i (r := r46) C hP hD hS dX5_darn_60 (rw_end h)
          · replace h := it_f c37 h
            refine lv_bipush (v := -7) hx hb dX5_darn_40 (by decide) ?_
            exact rt_i (r := (-7 : Int32)) C hP hD hS dX5_darn_42 (rw_end h)
def f_X5_darn (x1 : Int32) (x2 : Int32) (x3 : Int32) (M : Mem) : Option (Int32 × Mem) := b_X5_darn_0 x1 x2 x3 M
theorem c_X5_darn {l : Launch} {D : va_G} {cy : Nat → ClassId} {ad : Nat → Nat} {zz : (Nat → Nat) × (Nat → Nat)} {x1 : Int32} {x2 : Int32} {x3 : Int32} {M : Mem} {rr : Int32} {M' : Mem} (h : f_X5_darn x1 x2 x3 M = some (rr, M')) : CTi l D cy ad zz 0 82 yX5_darn (.code yX5_darn cX5_darn 6 (some .int) :: tb) ({ frames := 1, cells := 0, slots := 0, locals := 22 } : Room) [.ref (ad 0), .int x1, .int x2, .int x3] M rr M' := by
  intro sz
  refine CX.of (by decide +kernel) (fun p e s m args below meth c H ls C hP hD hS hl => ?_) (Nat.le_of_ble_eq_true rfl)
  exact w_X5_darn_0 C hP hD hS hl h
theorem ev_X5_darn : yX5_darn.cls = RX5 ∧ yX5_darn.cls ≠ "java/lang/invoke/MethodHandle" ∧ yX5_darn.cls ≠ "java/lang/invoke/VarHandle" ∧ (parseMethodDescriptor yX5_darn.desc).map (fun d => d.parameters.length) = some 3 := by decide +kernel
def b_X5_night_0 (N : Nat) (M : Mem) : Option (Int32 × Mem) := (if (FI M 1 1) < (999 : Int32) then (f_X5_theLaw M).bind fun r21 => gd (isK r21 3) (bd2 (f_X4_pass N 1 r21 M) fun r24 M24 => some (r24, M24)) else some ((-3 : Int32), M))
set_option maxHeartbeats 4000000 in
set_option maxRecDepth 100000 in
theorem w_X5_night_0 (C : CX p s m args meth c cX5_night 1 (some .int) RX5 D cy ad zz 0 82 A) {N : Nat} {M : Mem} {rr : Int32} {M' : Mem} {H : Heap} {locs : List Loc} (hP : va_P D vwCl (pool cy ad 0 82 M) H) (hD : va_D A (pool cy ad 0 82 M)) (hS : va_S A s.heap H locs) {ls : Array Slot} (hl : lv_has ls 1 [(0, .ref (ad 0))]) (h : b_X5_night_0 N M = some (rr, M')) : W p l e ({ frames := 6, cells := 0, slots := 0, locals := 143 } : Room) s m args below meth c H locs 0 0 (MQ below (va_Qi (fun (x : Int32) (_ : Unit) => x = rr) (fun _ t => PA D cy ad 0 82 A M' t) A) args s 0 0 A) (F0 m 0 ls []) := by
  obtain ⟨hx, hb, hml, hown, hts, hr, hlk, hK, hN, hA, hX⟩ := id C
  unfold b_X5_night_0 at h
  refine lv_aload_n hx hb dX5_night_0 rfl (lv_at hl 0 rfl) ?_
  refine gf_5_0 C hP (iL (by decide)) (by decide) wd_374 dX5_night_1 ?_
  refine gf_4_1 C hP (iL (by decide)) (by decide) wd_145 dX5_night_4 ?_
  refine lv_sipush (v := 999) hx hb dX5_night_7 (by decide) ?_
  refine lv_icmp_lt (tgt := 16) hx hb dX5_night_10 (by decide) (fun c10 => ?_) (fun c10 => ?_)
  · replace h := it_t c10 h
    refine lv_aload_n hx hb dX5_night_16 rfl (lv_at hl 0 rfl) ?_
    refine gf_5_0 C hP (iL (by decide)) (by decide) wd_374 dX5_night_17 ?_
    refine lv_aload_n hx hb dX5_night_20 rfl (lv_at hl 0 rfl) ?_
    obtain ⟨r21, g21, h⟩ := bd_of h
    refine call_rV (As := []) (rest := [.ref (ad 1)]) C hP hD hS (c_X5_theLaw g21) (iL (by decide)) ⟨5, _, _, ent_5 (by decide), rfl, rfl⟩ (gV wd_459 wd_461 wd_13 wd_64 wd_462) ev_X5_theLaw ⟨rfl, rfl⟩ ⟨Nat.le_of_ble_eq_true rfl, Nat.le_of_ble_eq_true rfl⟩ hl.1 rfl (Nat.le_of_ble_eq_true rfl) dX5_night_21 (fun H locs hP hD hS => ?_)
    obtain ⟨gk1, h⟩ := gd_of h
    obtain ⟨r24, M24, g24, h⟩ := bd2_of h
    refine call_iV (As := [.ref (ad r21)]) (rest := []) C hP hD hS (c_X4_pass (by decide) (isK_of gk1) g24) (iL (by decide)) ⟨4, _, _, ent_4 (by decide), rfl, rfl⟩ (gV wd_589 wd_590 wd_591 wd_65 wd_592) ev_X4_pass ⟨rfl, rfl⟩ ⟨Nat.le_of_ble_eq_true rfl, Nat.le_of_ble_eq_true rfl⟩ hl.1 rfl (Nat.le_of_ble_eq_true rfl) dX5_night_24 (fun H locs hP hD hS => ?_)
    exact rt_i (r := r24) C hP hD hS dX5_night_27 (rw_end h)
  · replace h := it_f c10 h
    refine lv_bipush (v := -3) hx hb dX5_night_13 (by decide) ?_
    exact rt_i (r := (-3 : Int32)) C hP hD hS dX5_night_15 (rw_end h)
def f_X5_night (N : Nat) (M : Mem) : Option (Int32 × Mem) := b_X5_night_0 N M
theorem c_X5_night {l : Launch} {D : va_G} {cy : Nat → ClassId} {ad : Nat → Nat} {zz : (Nat → Nat) × (Nat → Nat)} {N : Nat} {M : Mem} {rr : Int32} {M' : Mem} (h : f_X5_night N M = some (rr, M')) : CTi l D cy ad zz 0 82 yX5_night (.code yX5_night cX5_night 1 (some .int) :: tb) ({ frames := 6, cells := 0, slots := 0, locals := 143 } : Room) [.ref (ad 0)] M rr M' := by
  intro sz
  refine CX.of (by decide +kernel) (fun p e s m args below meth c H ls C hP hD hS hl => ?_) (Nat.le_of_ble_eq_true rfl)
  exact w_X5_night_0 C hP hD hS hl h
theorem ev_X5_night : yX5_night.cls = RX5 ∧ yX5_night.cls ≠ "java/lang/invoke/MethodHandle" ∧ yX5_night.cls ≠ "java/lang/invoke/VarHandle" ∧ (parseMethodDescriptor yX5_night.desc).map (fun d => d.parameters.length) = some 0 := by decide +kernel
def b_X5_passNights_4 (N : Nat) (x1 : Int32) : Nat → Int32 → Int32 → Mem → Option (Int32 × Mem)
  | 0, _, _, _ => none
  | fu + 1, x2, x3, M => (if x1 ≤ x3 then some (x2, M) else (f_X5_theLaw M).bind fun r15 => gd (isK r15 3) (bd2 (f_X4_pass N 2 r15 M) fun r18 M18 => b_X5_passNights_4 N x1 fu (x2 + r18) (x3 + (1 : Int32)) M18))
set_option maxHeartbeats 4000000 in
set_option maxRecDepth 100000 in
theorem w_X5_passNights_4 (C : CX p s m args meth c cX5_passNights 4 (some .int) RX5 D cy ad zz 0 82 A) {N : Nat} {x1 : Int32} {rr : Int32} {M' : Mem}  : ∀ (fu : Nat), ∀ (x2 : Int32), ∀ (x3 : Int32), ∀ (M : Mem), ∀ (H : Heap) (locs : List Loc), va_P D vwCl (pool cy ad 0 82 M) H → va_D A (pool cy ad 0 82 M) → va_S A s.heap H locs → ∀ (ls : Array Slot), lv_has ls 4 [(0, .ref (ad 0)), (1, .int x1), (2, .int x2), (3, .int x3)] → b_X5_passNights_4 N x1 fu x2 x3 M = some (rr, M') → W p l e ({ frames := 6, cells := 0, slots := 0, locals := 143 } : Room) s m args below meth c H locs 0 0 (MQ below (va_Qi (fun (x : Int32) (_ : Unit) => x = rr) (fun _ t => PA D cy ad 0 82 A M' t) A) args s 0 0 A) (F0 m 4 ls []) := by
  obtain ⟨hx, hb, hml, hown, hts, hr, hlk, hK, hN, hA, hX⟩ := id C
  intro fu
  induction fu with
  | zero =>
    intro x2 x3 M H locs hP hD hS ls hl h
    exact no_some (show none = some _ from h)
  | succ fu ih =>
    intro x2 x3 M H locs hP hD hS ls hl h
    rw [b_X5_passNights_4] at h
    refine lv_iload_n hx hb dX5_passNights_4 rfl (lv_at hl 3 rfl) ?_
    refine lv_iload_n hx hb dX5_passNights_5 rfl (lv_at hl 1 rfl) ?_
    refine lv_icmp_ge (tgt := 29) hx hb dX5_passNights_6 (by decide) (fun c6 => ?_) (fun c6 => ?_)
    · replace h := it_t c6 h
      refine lv_iload_n hx hb dX5_passNights_29 rfl (lv_at hl 2 rfl) ?_
      exact rt_i (r := x2) C hP hD hS dX5_passNights_30 (rw_end h)
    · replace h := it_f c6 h
      refine lv_iload_n hx hb dX5_passNights_9 rfl (lv_at hl 2 rfl) ?_
      refine lv_aload_n hx hb dX5_passNights_10 rfl (lv_at hl 0 rfl) ?_
      refine gf_5_1 C hP (iL (by decide)) (by decide) wd_375 dX5_passNights_11 ?_
      refine lv_aload_n hx hb dX5_passNights_14 rfl (lv_at hl 0 rfl) ?_
      obtain ⟨r15, g15, h⟩ := bd_of h
      refine call_rV (As := []) (rest := [.ref (ad 2), .int x2]) C hP hD hS (c_X5_theLaw g15) (iL (by decide)) ⟨5, _, _, ent_5 (by decide), rfl, rfl⟩ (gV wd_459 wd_461 wd_13 wd_64 wd_462) ev_X5_theLaw ⟨rfl, rfl⟩ ⟨Nat.le_of_ble_eq_true rfl, Nat.le_of_ble_eq_true rfl⟩ hl.1 rfl (Nat.le_of_ble_eq_true rfl) dX5_passNights_15 (fun H locs hP hD hS => ?_)
      obtain ⟨gk1, h⟩ := gd_of h
      obtain ⟨r18, M18, g18, h⟩ := bd2_of h
      refine call_iV (As := [.ref (ad r15)]) (rest := [.int x2]) C hP hD hS (c_X4_pass (by decide) (isK_of gk1) g18) (iL (by decide)) ⟨4, _, _, ent_4 (by decide), rfl, rfl⟩ (gV wd_589 wd_590 wd_591 wd_65 wd_592) ev_X4_pass ⟨rfl, rfl⟩ ⟨Nat.le_of_ble_eq_true rfl, Nat.le_of_ble_eq_true rfl⟩ hl.1 rfl (Nat.le_of_ble_eq_true rfl) dX5_passNights_18 (fun H locs hP hD hS => ?_)
      refine lv_iadd hx hb dX5_passNights_21 ?_
      refine lv_istore_n (lv' := [(2, .int (x2 + r18)), (0, .ref (ad 0)), (1, .int x1), (3, .int x3)]) hx hb dX5_passNights_22 rfl hl (by decide) rfl (fun ls hl => ?_)
      refine lv_iinc (v := (x3 + (1 : Int32))) (lv' := [(3, .int (x3 + (1 : Int32))), (2, .int (x2 + r18)), (0, .ref (ad 0)), (1, .int x1)]) hx hb dX5_passNights_23 hl (k := 3) rfl rfl (by decide) rfl (fun ls hl => ?_)
      refine lv_goto (tgt := 4) hx hb dX5_passNights_26 (by decide) ?_
      exact ih _ _ _ _ _ hP hD hS _ (lv_sub hl [2, 3, 1, 0] rfl) h
def b_X5_passNights_0 (N : Nat) (x1 : Int32) (M : Mem) : Option (Int32 × Mem) := b_X5_passNights_4 N x1 N (0 : Int32) (0 : Int32) M
set_option maxHeartbeats 4000000 in
set_option maxRecDepth 100000 in
theorem w_X5_passNights_0 (C : CX p s m args meth c cX5_passNights 4 (some .int) RX5 D cy ad zz 0 82 A) {N : Nat} {M : Mem} {x1 : Int32} {rr : Int32} {M' : Mem} {H : Heap} {locs : List Loc} (hP : va_P D vwCl (pool cy ad 0 82 M) H) (hD : va_D A (pool cy ad 0 82 M)) (hS : va_S A s.heap H locs) {ls : Array Slot} (hl : lv_has ls 4 [(0, .ref (ad 0)), (1, .int x1)]) (h : b_X5_passNights_0 N x1 M = some (rr, M')) : W p l e ({ frames := 6, cells := 0, slots := 0, locals := 143 } : Room) s m args below meth c H locs 0 0 (MQ below (va_Qi (fun (x : Int32) (_ : Unit) => x = rr) (fun _ t => PA D cy ad 0 82 A M' t) A) args s 0 0 A) (F0 m 0 ls []) := by
  obtain ⟨hx, hb, hml, hown, hts, hr, hlk, hK, hN, hA, hX⟩ := id C
  unfold b_X5_passNights_0 at h
  refine lv_iconst (v := 0) hx hb dX5_passNights_0 (by decide) ?_
  refine lv_istore_n (lv' := [(2, .int (0 : Int32)), (0, .ref (ad 0)), (1, .int x1)]) hx hb dX5_passNights_1 rfl hl (by decide) rfl (fun ls hl => ?_)
  refine lv_iconst (v := 0) hx hb dX5_passNights_2 (by decide) ?_
  refine lv_istore_n (lv' := [(3, .int (0 : Int32)), (2, .int (0 : Int32)), (0, .ref (ad 0)), (1, .int x1)]) hx hb dX5_passNights_3 rfl hl (by decide) rfl (fun ls hl => ?_)
  exact w_X5_passNights_4 C N _ _ _ _ _ hP hD hS _ (lv_sub hl [2, 3, 1, 0] rfl) h
def f_X5_passNights (N : Nat) (x1 : Int32) (M : Mem) : Option (Int32 × Mem) := b_X5_passNights_0 N x1 M
theorem c_X5_passNights {l : Launch} {D : va_G} {cy : Nat → ClassId} {ad : Nat → Nat} {zz : (Nat → Nat) × (Nat → Nat)} {N : Nat} {x1 : Int32} {M : Mem} {rr : Int32} {M' : Mem} (h : f_X5_passNights N x1 M = some (rr, M')) : CTi l D cy ad zz 0 82 yX5_passNights (.code yX5_passNights cX5_passNights 4 (some .int) :: tb) ({ frames := 6, cells := 0, slots := 0, locals := 143 } : Room) [.ref (ad 0), .int x1] M rr M' := by
  intro sz
  refine CX.of (by decide +kernel) (fun p e s m args below meth c H ls C hP hD hS hl => ?_) (Nat.le_of_ble_eq_true rfl)
  exact w_X5_passNights_0 C hP hD hS hl h
theorem ev_X5_passNights : yX5_passNights.cls = RX5 ∧ yX5_passNights.cls ≠ "java/lang/invoke/MethodHandle" ∧ yX5_passNights.cls ≠ "java/lang/invoke/VarHandle" ∧ (parseMethodDescriptor yX5_passNights.desc).map (fun d => d.parameters.length) = some 1 := by decide +kernel
end
