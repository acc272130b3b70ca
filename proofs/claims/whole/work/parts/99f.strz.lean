/-! L3: String's methods over an empty pool -/
section
variable {p : Program} {l : Launch} {e : Env} {s : State} {m : MethodId} {args : Array Value} {below : List Frame} {meth : Method} {c : Code} {D : va_G} {cy : Nat → ClassId} {ad : Nat → Nat} {zz : (Nat → Nat) × (Nat → Nat)} {A : Nat → Prop}
set_option maxHeartbeats 4000000 in
set_option maxRecDepth 100000 in
theorem wz_J0_coder_7d493_0 (C : CX p s m args meth c cJ0_coder_7d493 1 (some .byte) RJ0 D cy ad zz 0 0 A) {M : Mem} {s0 : Nat} (hs_s0 : s0 < 13) {rr : Int32} {H : Heap} {locs : List Loc} (hP : va_P D vwCl (pool cy ad 0 0 M) H) (hD : va_D A (pool cy ad 0 0 M)) (hS : va_S A s.heap H locs) {ls : Array Slot} (hl : lv_has ls 1 [(0, .ref (zz.1 s0))]) (h : b_J0_coder_7d493_0 M s0 = some rr) : W p l e ({ frames := 0, cells := 0, slots := 0, locals := 0 } : Room) s m args below meth c H locs 0 0 (MQ below (va_Qi (fun (x : Int32) (_ : Unit) => x = rr) (fun _ t => PA D cy ad 0 0 A M t) A) args s 0 0 A) (F0 m 0 ls []) := by
  obtain ⟨hx, hb, hml, hown, hts, hr, hlk, hK, hN, hA, hX⟩ := id C
  unfold b_J0_coder_7d493_0 at h
  refine va_gets hx hb hX.2.1 hS hown (hts _ wd_219) (fun _ h => h) dJ0_coder_7d493_0 ?_
  refine lv_if_eq (tgt := 13) hx hb dJ0_coder_7d493_3 (by decide) (fun c3 => ?_) (fun c3 => ?_)
  · replace h := it_t c3 h
    refine lv_iconst (v := 1) hx hb dJ0_coder_7d493_13 (by decide) ?_
    exact rt_n (r := (1 : Int32)) C hP hD hS rfl dJ0_coder_7d493_14 ⟨Option.some.inj h, rfl⟩
  · replace h := it_f c3 h
    refine lv_aload_n hx hb dJ0_coder_7d493_6 rfl (lv_at hl 0 rfl) ?_
    refine vk_getf hx hb (hX.1.1 _ hs_s0).2.1 hS hown (hts _ wd_1280) (fun _ h => h) dJ0_coder_7d493_7 ?_
    refine lv_goto (tgt := 14) hx hb dJ0_coder_7d493_10 (by decide) ?_
    exact rt_n (r := (0 : Int32)) C hP hD hS rfl dJ0_coder_7d493_14 ⟨Option.some.inj h, rfl⟩
theorem cz_J0_coder_7d493 {l : Launch} {D : va_G} {cy : Nat → ClassId} {ad : Nat → Nat} {zz : (Nat → Nat) × (Nat → Nat)} {s0 : Nat} (hs_s0 : s0 < 13) {M : Mem} {rr : Int32} (h : f_J0_coder_7d493 s0 M = some rr) : CTi l D cy ad zz 0 0 yJ0_coder_7d493 (.code yJ0_coder_7d493 cJ0_coder_7d493 1 (some .byte) :: tb) ({ frames := 0, cells := 0, slots := 0, locals := 0 } : Room) [.ref (zz.1 s0)] M rr M := by
  intro sz
  refine CX.of (by decide +kernel) (fun p e s m args below meth c H ls C hP hD hS hl => ?_) (Nat.le_of_ble_eq_true rfl)
  exact wz_J0_coder_7d493_0 C hs_s0 hP hD hS hl h
set_option maxHeartbeats 4000000 in
set_option maxRecDepth 100000 in
theorem wz_J0_length_8abf5_0 (C : CX p s m args meth c cJ0_length_8abf5 1 (some .int) RJ0 D cy ad zz 0 0 A) {M : Mem} {s0 : Nat} (hs_s0 : s0 < 13) {rr : Int32} {H : Heap} {locs : List Loc} (hP : va_P D vwCl (pool cy ad 0 0 M) H) (hD : va_D A (pool cy ad 0 0 M)) (hS : va_S A s.heap H locs) {ls : Array Slot} (hl : lv_has ls 1 [(0, .ref (zz.1 s0))]) (h : b_J0_length_8abf5_0 M s0 = some rr) : W p l e ({ frames := 1, cells := 0, slots := 0, locals := 20 } : Room) s m args below meth c H locs 0 0 (MQ below (va_Qi (fun (x : Int32) (_ : Unit) => x = rr) (fun _ t => PA D cy ad 0 0 A M t) A) args s 0 0 A) (F0 m 0 ls []) := by
  obtain ⟨hx, hb, hml, hown, hts, hr, hlk, hK, hN, hA, hX⟩ := id C
  unfold b_J0_length_8abf5_0 at h
  refine lv_aload_n hx hb dJ0_length_8abf5_0 rfl (lv_at hl 0 rfl) ?_
  refine vk_getf hx hb (hX.1.1 _ hs_s0).2.2.1 hS hown (hts _ wd_1279) (fun _ h => h) dJ0_length_8abf5_1 ?_
  refine va_tlen hx hb (hX.1.1 _ hs_s0).2.2.2 hS (v := nI (zlen.getD s0 0)) rfl dJ0_length_8abf5_4 ?_
  refine lv_aload_n hx hb dJ0_length_8abf5_5 rfl (lv_at hl 0 rfl) ?_
  obtain ⟨r6, g6, h⟩ := bd_of h
  refine call_iT (As := []) (rest := [.int (nI (zlen.getD s0 0))]) C hP hD hS (cz_J0_coder_7d493 hs_s0 g6) (vk_recv hX.1 hs_s0 hS) (gV wd_215 wd_216 wd_217 wd_69 wd_218) ev_J0_coder_7d493 ⟨rfl, rfl⟩ ⟨Nat.le_of_ble_eq_true rfl, Nat.le_of_ble_eq_true rfl⟩ hl.1 rfl (Nat.le_of_ble_eq_true rfl) dJ0_length_8abf5_6 (fun H locs hP hD hS => ?_)
  refine lv_ishr hx hb dJ0_length_8abf5_9 ?_
  exact rt_i (r := ((nI (zlen.getD s0 0)) >>> (r6 &&& 31))) C hP hD hS dJ0_length_8abf5_10 ⟨Option.some.inj h, rfl⟩
theorem cz_J0_length_8abf5 {l : Launch} {D : va_G} {cy : Nat → ClassId} {ad : Nat → Nat} {zz : (Nat → Nat) × (Nat → Nat)} {s0 : Nat} (hs_s0 : s0 < 13) {M : Mem} {rr : Int32} (h : f_J0_length_8abf5 s0 M = some rr) : CTi l D cy ad zz 0 0 yJ0_length_8abf5 (.code yJ0_length_8abf5 cJ0_length_8abf5 1 (some .int) :: tb) ({ frames := 1, cells := 0, slots := 0, locals := 20 } : Room) [.ref (zz.1 s0)] M rr M := by
  intro sz
  refine CX.of (by decide +kernel) (fun p e s m args below meth c H ls C hP hD hS hl => ?_) (Nat.le_of_ble_eq_true rfl)
  exact wz_J0_length_8abf5_0 C hs_s0 hP hD hS hl h
set_option maxHeartbeats 4000000 in
set_option maxRecDepth 100000 in
theorem wz_J0_isLatin1_aae02_0 (C : CX p s m args meth c cJ0_isLatin1_aae02 1 (some .boolean) RJ0 D cy ad zz 0 0 A) {M : Mem} {s0 : Nat} (hs_s0 : s0 < 13) {rr : Bool} {H : Heap} {locs : List Loc} (hP : va_P D vwCl (pool cy ad 0 0 M) H) (hD : va_D A (pool cy ad 0 0 M)) (hS : va_S A s.heap H locs) {ls : Array Slot} (hl : lv_has ls 1 [(0, .ref (zz.1 s0))]) (h : b_J0_isLatin1_aae02_0 M s0 = some rr) : W p l e ({ frames := 0, cells := 0, slots := 0, locals := 0 } : Room) s m args below meth c H locs 0 0 (MQ below (va_Qi (fun (x : Int32) (_ : Unit) => x = b2i rr) (fun _ t => PA D cy ad 0 0 A M t) A) args s 0 0 A) (F0 m 0 ls []) := by
  obtain ⟨hx, hb, hml, hown, hts, hr, hlk, hK, hN, hA, hX⟩ := id C
  unfold b_J0_isLatin1_aae02_0 at h
  refine va_gets hx hb hX.2.1 hS hown (hts _ wd_219) (fun _ h => h) dJ0_isLatin1_aae02_0 ?_
  refine lv_if_eq (tgt := 17) hx hb dJ0_isLatin1_aae02_3 (by decide) (fun c3 => ?_) (fun c3 => ?_)
  · replace h := it_t c3 h
    refine lv_iconst (v := 0) hx hb dJ0_isLatin1_aae02_17 (by decide) ?_
    exact rt_z (r := false) C hP hD hS dJ0_isLatin1_aae02_18 ⟨Option.some.inj h, rfl⟩
  · replace h := it_f c3 h
    refine lv_aload_n hx hb dJ0_isLatin1_aae02_6 rfl (lv_at hl 0 rfl) ?_
    refine vk_getf hx hb (hX.1.1 _ hs_s0).2.1 hS hown (hts _ wd_1280) (fun _ h => h) dJ0_isLatin1_aae02_7 ?_
    refine lv_if_ne (tgt := 17) hx hb dJ0_isLatin1_aae02_10 (by decide) (fun c10 => ?_) (fun c10 => ?_)
    · replace h := it_f c10 h
      refine lv_iconst (v := 0) hx hb dJ0_isLatin1_aae02_17 (by decide) ?_
      exact rt_z (r := false) C hP hD hS dJ0_isLatin1_aae02_18 ⟨Option.some.inj h, rfl⟩
    · replace h := it_t c10 h
      refine lv_iconst (v := 1) hx hb dJ0_isLatin1_aae02_13 (by decide) ?_
      refine lv_goto (tgt := 18) hx hb dJ0_isLatin1_aae02_14 (by decide) ?_
      exact rt_z (r := true) C hP hD hS dJ0_isLatin1_aae02_18 ⟨Option.some.inj h, rfl⟩
theorem cz_J0_isLatin1_aae02 {l : Launch} {D : va_G} {cy : Nat → ClassId} {ad : Nat → Nat} {zz : (Nat → Nat) × (Nat → Nat)} {s0 : Nat} (hs_s0 : s0 < 13) {M : Mem} {rr : Bool} (h : f_J0_isLatin1_aae02 s0 M = some rr) : CTi l D cy ad zz 0 0 yJ0_isLatin1_aae02 (.code yJ0_isLatin1_aae02 cJ0_isLatin1_aae02 1 (some .boolean) :: tb) ({ frames := 0, cells := 0, slots := 0, locals := 0 } : Room) [.ref (zz.1 s0)] M (b2i rr) M := by
  intro sz
  refine CX.of (by decide +kernel) (fun p e s m args below meth c H ls C hP hD hS hl => ?_) (Nat.le_of_ble_eq_true rfl)
  exact wz_J0_isLatin1_aae02_0 C hs_s0 hP hD hS hl h
set_option maxHeartbeats 4000000 in
set_option maxRecDepth 100000 in
theorem wz_J3_checkIndex_8e157_9 (C : CX p s m args meth c cJ3_checkIndex_8e157 3 (some .int) RJ3 D cy ad zz 0 0 A) {M : Mem} {x0 : Int32} {x1 : Int32} {o2 : Option Nat} {rr : Int32} {H : Heap} {locs : List Loc} (hP : va_P D vwCl (pool cy ad 0 0 M) H) (hD : va_D A (pool cy ad 0 0 M)) (hS : va_S A s.heap H locs) {ls : Array Slot} (hl : lv_has ls 3 [(2, va_rf o2)]) (h : b_J3_checkIndex_8e157_9 M x0 x1 = some rr) : W p l e ({ frames := 0, cells := 0, slots := 0, locals := 0 } : Room) s m args below meth c H locs 0 0 (MQ below (va_Qi (fun (x : Int32) (_ : Unit) => x = rr) (fun _ t => PA D cy ad 0 0 A M t) A) args s 0 0 A) (F0 m 9 ls []) := by
  obtain ⟨hx, hb, hml, hown, hts, hr, hlk, hK, hN, hA, hX⟩ := id C
  unfold b_J3_checkIndex_8e157_9 at h
  exact no_some h
set_option maxHeartbeats 4000000 in
set_option maxRecDepth 100000 in
theorem wz_J3_checkIndex_8e157_0 (C : CX p s m args meth c cJ3_checkIndex_8e157 3 (some .int) RJ3 D cy ad zz 0 0 A) {M : Mem} {x0 : Int32} {x1 : Int32} {o2 : Option Nat} {rr : Int32} {H : Heap} {locs : List Loc} (hP : va_P D vwCl (pool cy ad 0 0 M) H) (hD : va_D A (pool cy ad 0 0 M)) (hS : va_S A s.heap H locs) {ls : Array Slot} (hl : lv_has ls 3 [(0, .int x0), (1, .int x1), (2, va_rf o2)]) (h : b_J3_checkIndex_8e157_0 M x0 x1 = some rr) : W p l e ({ frames := 0, cells := 0, slots := 0, locals := 0 } : Room) s m args below meth c H locs 0 0 (MQ below (va_Qi (fun (x : Int32) (_ : Unit) => x = rr) (fun _ t => PA D cy ad 0 0 A M t) A) args s 0 0 A) (F0 m 0 ls []) := by
  obtain ⟨hx, hb, hml, hown, hts, hr, hlk, hK, hN, hA, hX⟩ := id C
  unfold b_J3_checkIndex_8e157_0 at h
  refine lv_iload_n hx hb dJ3_checkIndex_8e157_0 rfl (lv_at hl 0 rfl) ?_
  refine lv_if_lt (tgt := 9) hx hb dJ3_checkIndex_8e157_1 (by decide) (fun c1 => ?_) (fun c1 => ?_)
  · replace h := it_t c1 h
    exact wz_J3_checkIndex_8e157_9 C hP hD hS (lv_sub hl [2] rfl) h
  · replace h := it_f c1 h
    refine lv_iload_n hx hb dJ3_checkIndex_8e157_4 rfl (lv_at hl 0 rfl) ?_
    refine lv_iload_n hx hb dJ3_checkIndex_8e157_5 rfl (lv_at hl 1 rfl) ?_
    refine lv_icmp_lt (tgt := 16) hx hb dJ3_checkIndex_8e157_6 (by decide) (fun c6 => ?_) (fun c6 => ?_)
    · replace h := it_t c6 h
      refine lv_iload_n hx hb dJ3_checkIndex_8e157_16 rfl (lv_at hl 0 rfl) ?_
      exact rt_i (r := x0) C hP hD hS dJ3_checkIndex_8e157_17 ⟨Option.some.inj h, rfl⟩
    · replace h := it_f c6 h
      exact wz_J3_checkIndex_8e157_9 C hP hD hS (lv_sub hl [2] rfl) h
theorem cz_J3_checkIndex_8e157 {l : Launch} {D : va_G} {cy : Nat → ClassId} {ad : Nat → Nat} {zz : (Nat → Nat) × (Nat → Nat)} {x0 : Int32} {x1 : Int32} {o2 : Option Nat} {M : Mem} {rr : Int32} (h : f_J3_checkIndex_8e157 x0 x1 M = some rr) : CTi l D cy ad zz 0 0 yJ3_checkIndex_8e157 (.code yJ3_checkIndex_8e157 cJ3_checkIndex_8e157 3 (some .int) :: tb) ({ frames := 0, cells := 0, slots := 0, locals := 0 } : Room) [.int x0, .int x1, va_rf o2] M rr M := by
  intro sz
  refine CX.of (by decide +kernel) (fun p e s m args below meth c H ls C hP hD hS hl => ?_) (by cases o2 <;> exact Nat.le_of_ble_eq_true rfl)
  exact wz_J3_checkIndex_8e157_0 C hP hD hS hl h
set_option maxHeartbeats 4000000 in
set_option maxRecDepth 100000 in
theorem wz_J0_checkIndex_df160_0 (C : CX p s m args meth c cJ0_checkIndex_df160 2 none RJ0 D cy ad zz 0 0 A) {M : Mem} {x0 : Int32} {x1 : Int32}  {H : Heap} {locs : List Loc} (hP : va_P D vwCl (pool cy ad 0 0 M) H) (hD : va_D A (pool cy ad 0 0 M)) (hS : va_S A s.heap H locs) {ls : Array Slot} (hl : lv_has ls 2 [(0, .int x0), (1, .int x1)]) (h : b_J0_checkIndex_df160_0 M x0 x1 = some ()) : W p l e ({ frames := 1, cells := 0, slots := 0, locals := 22 } : Room) s m args below meth c H locs 0 0 (MQ below (va_Qv (fun (_ : Unit) => True) (fun _ t => PA D cy ad 0 0 A M t) A) args s 0 0 A) (F0 m 0 ls []) := by
  obtain ⟨hx, hb, hml, hown, hts, hr, hlk, hK, hN, hA, hX⟩ := id C
  unfold b_J0_checkIndex_df160_0 at h
  refine lv_iload_n hx hb dJ0_checkIndex_df160_0 rfl (lv_at hl 0 rfl) ?_
  refine lv_iload_n hx hb dJ0_checkIndex_df160_1 rfl (lv_at hl 1 rfl) ?_
  obtain ⟨o2, hz2⟩ := hX.zq
  refine va_gets hx hb hz2 hS hown (hts _ wd_238) (fun _ h => h) dJ0_checkIndex_df160_2 ?_
  obtain ⟨r5, g5, h⟩ := bd_of h
  refine call_iS (As := [.int x0, .int x1, va_rf o2]) (rest := []) C hP hD hS (cz_J3_checkIndex_8e157 g5) (gS wd_240 wd_241 wd_72 wd_242) es_J3_checkIndex_8e157 ⟨rfl, rfl⟩ ⟨Nat.le_of_ble_eq_true rfl, Nat.le_of_ble_eq_true rfl⟩ hl.1 rfl (Nat.le_of_ble_eq_true rfl) dJ0_checkIndex_df160_5 (fun H locs hP hD hS => ?_)
  refine lv_pop hx hb dJ0_checkIndex_df160_8 rfl ?_
  exact rt_v C hP hD hS dJ0_checkIndex_df160_9 rfl
theorem cz_J0_checkIndex_df160 {l : Launch} {D : va_G} {cy : Nat → ClassId} {ad : Nat → Nat} {zz : (Nat → Nat) × (Nat → Nat)} {x0 : Int32} {x1 : Int32} {M : Mem}  (h : f_J0_checkIndex_df160 x0 x1 M = some ()) : CTv l D cy ad zz 0 0 yJ0_checkIndex_df160 (.code yJ0_checkIndex_df160 cJ0_checkIndex_df160 2 none :: tb) ({ frames := 1, cells := 0, slots := 0, locals := 22 } : Room) [.int x0, .int x1] M M := by
  intro sz
  refine CX.of (by decide +kernel) (fun p e s m args below meth c H ls C hP hD hS hl => ?_) (Nat.le_of_ble_eq_true rfl)
  exact wz_J0_checkIndex_df160_0 C hP hD hS hl h
set_option maxHeartbeats 4000000 in
set_option maxRecDepth 100000 in
theorem wz_J1_charAt_3b067_0 (C : CX p s m args meth c cJ1_charAt_3b067 2 (some .char) RJ1 D cy ad zz 0 0 A) {M : Mem} {s0 : Nat} (hs_s0 : s0 < 13) {x1 : Int32} {rr : Int32} {H : Heap} {locs : List Loc} (hP : va_P D vwCl (pool cy ad 0 0 M) H) (hD : va_D A (pool cy ad 0 0 M)) (hS : va_S A s.heap H locs) {ls : Array Slot} (hl : lv_has ls 2 [(0, .ref (zz.2 s0)), (1, .int x1)]) (h : b_J1_charAt_3b067_0 M s0 x1 = some rr) : W p l e ({ frames := 2, cells := 0, slots := 0, locals := 43 } : Room) s m args below meth c H locs 0 0 (MQ below (va_Qi (fun (x : Int32) (_ : Unit) => x = rr) (fun _ t => PA D cy ad 0 0 A M t) A) args s 0 0 A) (F0 m 0 ls []) := by
  obtain ⟨hx, hb, hml, hown, hts, hr, hlk, hK, hN, hA, hX⟩ := id C
  unfold b_J1_charAt_3b067_0 at h
  refine lv_iload_n hx hb dJ1_charAt_3b067_0 rfl (lv_at hl 1 rfl) ?_
  refine lv_aload_n hx hb dJ1_charAt_3b067_1 rfl (lv_at hl 0 rfl) ?_
  refine va_tlen hx hb (hX.1.1 _ hs_s0).2.2.2 hS (v := nI (zlen.getD s0 0)) rfl dJ1_charAt_3b067_2 ?_
  obtain ⟨⟨⟩, g3, h⟩ := bd_of h
  refine call_vS (As := [.int x1, .int (nI (zlen.getD s0 0))]) (rest := []) C hP hD hS (cz_J0_checkIndex_df160 g3) (gS wd_235 wd_236 wd_69 wd_237) es_J0_checkIndex_df160 ⟨rfl, rfl⟩ ⟨Nat.le_of_ble_eq_true rfl, Nat.le_of_ble_eq_true rfl⟩ hl.1 rfl (Nat.le_of_ble_eq_true rfl) dJ1_charAt_3b067_3 (fun H locs hP hD hS => ?_)
  refine lv_aload_n hx hb dJ1_charAt_3b067_6 rfl (lv_at hl 0 rfl) ?_
  refine lv_iload_n hx hb dJ1_charAt_3b067_7 rfl (lv_at hl 1 rfl) ?_
  obtain ⟨gi1, h⟩ := gd_of h
  refine va_tb hx hb (hX.1.1 _ hs_s0).2.2.2 hS (inb_in gi1) (v := .int ((zbyt.getD s0 []).getD x1.toNatClampNeg 0)) rfl dJ1_charAt_3b067_8 ?_
  refine lv_sipush (v := 255) hx hb dJ1_charAt_3b067_9 (by decide) ?_
  refine lv_iand hx hb dJ1_charAt_3b067_12 ?_
  refine lv_i2c (v := ((((((zbyt.getD s0 []).getD x1.toNatClampNeg 0) &&& (255 : Int32))).toUInt32 % 65536).toInt32)) hx hb dJ1_charAt_3b067_13 rfl ?_
  exact rt_n (r := ((((((zbyt.getD s0 []).getD x1.toNatClampNeg 0) &&& (255 : Int32))).toUInt32 % 65536).toInt32)) C hP hD hS (pk_nc _) dJ1_charAt_3b067_14 ⟨Option.some.inj h, rfl⟩
theorem cz_J1_charAt_3b067 {l : Launch} {D : va_G} {cy : Nat → ClassId} {ad : Nat → Nat} {zz : (Nat → Nat) × (Nat → Nat)} {s0 : Nat} (hs_s0 : s0 < 13) {x1 : Int32} {M : Mem} {rr : Int32} (h : f_J1_charAt_3b067 s0 x1 M = some rr) : CTi l D cy ad zz 0 0 yJ1_charAt_3b067 (.code yJ1_charAt_3b067 cJ1_charAt_3b067 2 (some .char) :: tb) ({ frames := 2, cells := 0, slots := 0, locals := 43 } : Room) [.ref (zz.2 s0), .int x1] M rr M := by
  intro sz
  refine CX.of (by decide +kernel) (fun p e s m args below meth c H ls C hP hD hS hl => ?_) (Nat.le_of_ble_eq_true rfl)
  exact wz_J1_charAt_3b067_0 C hs_s0 hP hD hS hl h
set_option maxHeartbeats 4000000 in
set_option maxRecDepth 100000 in
theorem wz_J0_charAt_5068e_0 (C : CX p s m args meth c cJ0_charAt_5068e 2 (some .char) RJ0 D cy ad zz 0 0 A) {M : Mem} {s0 : Nat} (hs_s0 : s0 < 13) {x1 : Int32} {rr : Int32} {H : Heap} {locs : List Loc} (hP : va_P D vwCl (pool cy ad 0 0 M) H) (hD : va_D A (pool cy ad 0 0 M)) (hS : va_S A s.heap H locs) {ls : Array Slot} (hl : lv_has ls 2 [(0, .ref (zz.1 s0)), (1, .int x1)]) (h : b_J0_charAt_5068e_0 M s0 x1 = some rr) : W p l e ({ frames := 3, cells := 0, slots := 0, locals := 64 } : Room) s m args below meth c H locs 0 0 (MQ below (va_Qi (fun (x : Int32) (_ : Unit) => x = rr) (fun _ t => PA D cy ad 0 0 A M t) A) args s 0 0 A) (F0 m 0 ls []) := by
  obtain ⟨hx, hb, hml, hown, hts, hr, hlk, hK, hN, hA, hX⟩ := id C
  unfold b_J0_charAt_5068e_0 at h
  refine lv_aload_n hx hb dJ0_charAt_5068e_0 rfl (lv_at hl 0 rfl) ?_
  obtain ⟨r1, g1, h⟩ := bd_of h
  refine call_iT (As := []) (rest := []) C hP hD hS (cz_J0_isLatin1_aae02 hs_s0 g1) (vk_recv hX.1 hs_s0 hS) (gV wd_228 wd_229 wd_230 wd_69 wd_231) ev_J0_isLatin1_aae02 ⟨rfl, rfl⟩ ⟨Nat.le_of_ble_eq_true rfl, Nat.le_of_ble_eq_true rfl⟩ hl.1 rfl (Nat.le_of_ble_eq_true rfl) dJ0_charAt_5068e_1 (fun H locs hP hD hS => ?_)
  refine lv_if_eq (tgt := 16) hx hb dJ0_charAt_5068e_4 (by decide) (fun c4 => ?_) (fun c4 => ?_)
  · replace h := it_f (b2i_n c4) h
    exact no_some h
  · replace h := it_t (b2i_1 c4) h
    refine lv_aload_n hx hb dJ0_charAt_5068e_7 rfl (lv_at hl 0 rfl) ?_
    refine vk_getf hx hb (hX.1.1 _ hs_s0).2.2.1 hS hown (hts _ wd_1279) (fun _ h => h) dJ0_charAt_5068e_8 ?_
    refine lv_iload_n hx hb dJ0_charAt_5068e_11 rfl (lv_at hl 1 rfl) ?_
    obtain ⟨r12, g12, h⟩ := bd_of h
    refine call_iS (As := [.ref (zz.2 s0), .int x1]) (rest := []) C hP hD hS (cz_J1_charAt_3b067 hs_s0 g12) (gS wd_232 wd_233 wd_71 wd_234) es_J1_charAt_3b067 ⟨rfl, rfl⟩ ⟨Nat.le_of_ble_eq_true rfl, Nat.le_of_ble_eq_true rfl⟩ hl.1 rfl (Nat.le_of_ble_eq_true rfl) dJ0_charAt_5068e_12 (fun H locs hP hD hS => ?_)
    obtain ⟨gb1, h⟩ := gd_of h
    exact rt_n (r := r12) C hP hD hS (isCh_n gb1) dJ0_charAt_5068e_15 ⟨Option.some.inj h, rfl⟩
theorem cz_J0_charAt_5068e {l : Launch} {D : va_G} {cy : Nat → ClassId} {ad : Nat → Nat} {zz : (Nat → Nat) × (Nat → Nat)} {s0 : Nat} (hs_s0 : s0 < 13) {x1 : Int32} {M : Mem} {rr : Int32} (h : f_J0_charAt_5068e s0 x1 M = some rr) : CTi l D cy ad zz 0 0 yJ0_charAt_5068e (.code yJ0_charAt_5068e cJ0_charAt_5068e 2 (some .char) :: tb) ({ frames := 3, cells := 0, slots := 0, locals := 64 } : Room) [.ref (zz.1 s0), .int x1] M rr M := by
  intro sz
  refine CX.of (by decide +kernel) (fun p e s m args below meth c H ls C hP hD hS hl => ?_) (Nat.le_of_ble_eq_true rfl)
  exact wz_J0_charAt_5068e_0 C hs_s0 hP hD hS hl h
end
