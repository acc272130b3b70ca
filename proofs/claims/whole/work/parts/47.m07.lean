section
variable {p : Program} {l : Launch} {e : Env} {s : State} {m : MethodId} {args : Array Value} {below : List Frame} {meth : Method} {c : Code} {D : va_G} {cy : Nat → ClassId} {ad : Nat → Nat} {zz : (Nat → Nat) × (Nat → Nat)} {A : Nat → Prop}
def b_X6_isUnder_19 (M : Mem) (x0 : Int32) (x1 : Int32) : Option (Bool) := (if x1 = (2 : Int32) then (if x0 = (4 : Int32) then some true else some false) else some false)
set_option maxHeartbeats 4000000 in
set_option maxRecDepth 100000 in
theorem w_X6_isUnder_19 (C : CX p s m args meth c cX6_isUnder 2 (some .boolean) RX6 D cy ad zz 100 21 A) {M : Mem} {x0 : Int32} {x1 : Int32} {rr : Bool} {H : Heap} {locs : List Loc} (hP : va_P D vwCl (pool cy ad 100 21 M) H) (hD : va_D A (pool cy ad 100 21 M)) (hS : va_S A s.heap H locs) {ls : Array Slot} (hl : lv_has ls 2 [(0, .int x0), (1, .int x1)]) (h : b_X6_isUnder_19 M x0 x1 = some rr) : W p l e ({ frames := 0, cells := 0, slots := 0, locals := 0 } : Room) s m args below meth c H locs 0 0 (MQ below (va_Qi (fun (x : Int32) (_ : Unit) => x = b2i rr) (fun _ t => PA D cy ad 100 21 A M t) A) args s 0 0 A) (F0 m 19 ls []) := by
  obtain ⟨hx, hb, hml, hown, hts, hr, hlk, hK, hN, hA, hX⟩ := id C
  unfold b_X6_isUnder_19 at h
  refine lv_iload_n hx hb dX6_isUnder_19 rfl (lv_at hl 1 rfl) ?_
  refine lv_iconst (v := 2) hx hb dX6_isUnder_20 (by decide) ?_
  refine lv_icmp_ne (tgt := 33) hx hb dX6_isUnder_21 (by decide) (fun c21 => ?_) (fun c21 => ?_)
  · replace h := it_f c21 h
    refine lv_iconst (v := 0) hx hb dX6_isUnder_33 (by decide) ?_
    exact rt_z (r := false) C hP hD hS dX6_isUnder_34 ⟨Option.some.inj h, rfl⟩
  · replace h := it_t c21 h
    refine lv_iload_n hx hb dX6_isUnder_24 rfl (lv_at hl 0 rfl) ?_
    refine lv_iconst (v := 4) hx hb dX6_isUnder_25 (by decide) ?_
    refine lv_icmp_ne (tgt := 33) hx hb dX6_isUnder_26 (by decide) (fun c26 => ?_) (fun c26 => ?_)
    · replace h := it_f c26 h
      refine lv_iconst (v := 0) hx hb dX6_isUnder_33 (by decide) ?_
      exact rt_z (r := false) C hP hD hS dX6_isUnder_34 ⟨Option.some.inj h, rfl⟩
    · replace h := it_t c26 h
      refine lv_iconst (v := 1) hx hb dX6_isUnder_29 (by decide) ?_
      refine lv_goto (tgt := 34) hx hb dX6_isUnder_30 (by decide) ?_
      exact rt_z (r := true) C hP hD hS dX6_isUnder_34 ⟨Option.some.inj h, rfl⟩
def b_X6_isUnder_0 (M : Mem) (x0 : Int32) (x1 : Int32) : Option (Bool) := (if x1 = 0 then some true else (if x0 = x1 then some true else (if x1 = (1 : Int32) then (if x0 = (3 : Int32) then some true else b_X6_isUnder_19 M x0 x1) else b_X6_isUnder_19 M x0 x1)))
set_option maxHeartbeats 4000000 in
set_option maxRecDepth 100000 in
theorem w_X6_isUnder_0 (C : CX p s m args meth c cX6_isUnder 2 (some .boolean) RX6 D cy ad zz 100 21 A) {M : Mem} {x0 : Int32} {x1 : Int32} {rr : Bool} {H : Heap} {locs : List Loc} (hP : va_P D vwCl (pool cy ad 100 21 M) H) (hD : va_D A (pool cy ad 100 21 M)) (hS : va_S A s.heap H locs) {ls : Array Slot} (hl : lv_has ls 2 [(0, .int x0), (1, .int x1)]) (h : b_X6_isUnder_0 M x0 x1 = some rr) : W p l e ({ frames := 0, cells := 0, slots := 0, locals := 0 } : Room) s m args below meth c H locs 0 0 (MQ below (va_Qi (fun (x : Int32) (_ : Unit) => x = b2i rr) (fun _ t => PA D cy ad 100 21 A M t) A) args s 0 0 A) (F0 m 0 ls []) := by
  obtain ⟨hx, hb, hml, hown, hts, hr, hlk, hK, hN, hA, hX⟩ := id C
  unfold b_X6_isUnder_0 at h
  refine lv_iload_n hx hb dX6_isUnder_0 rfl (lv_at hl 1 rfl) ?_
  refine lv_if_eq (tgt := 29) hx hb dX6_isUnder_1 (by decide) (fun c1 => ?_) (fun c1 => ?_)
  · replace h := it_t c1 h
    refine lv_iconst (v := 1) hx hb dX6_isUnder_29 (by decide) ?_
    refine lv_goto (tgt := 34) hx hb dX6_isUnder_30 (by decide) ?_
    exact rt_z (r := true) C hP hD hS dX6_isUnder_34 ⟨Option.some.inj h, rfl⟩
  · replace h := it_f c1 h
    refine lv_iload_n hx hb dX6_isUnder_4 rfl (lv_at hl 0 rfl) ?_
    refine lv_iload_n hx hb dX6_isUnder_5 rfl (lv_at hl 1 rfl) ?_
    refine lv_icmp_eq (tgt := 29) hx hb dX6_isUnder_6 (by decide) (fun c6 => ?_) (fun c6 => ?_)
    · replace h := it_t c6 h
      refine lv_iconst (v := 1) hx hb dX6_isUnder_29 (by decide) ?_
      refine lv_goto (tgt := 34) hx hb dX6_isUnder_30 (by decide) ?_
      exact rt_z (r := true) C hP hD hS dX6_isUnder_34 ⟨Option.some.inj h, rfl⟩
    · replace h := it_f c6 h
      refine lv_iload_n hx hb dX6_isUnder_9 rfl (lv_at hl 1 rfl) ?_
      refine lv_iconst (v := 1) hx hb dX6_isUnder_10 (by decide) ?_
      refine lv_icmp_ne (tgt := 19) hx hb dX6_isUnder_11 (by decide) (fun c11 => ?_) (fun c11 => ?_)
      · replace h := it_f c11 h
        exact w_X6_isUnder_19 C hP hD hS hl h
      · replace h := it_t c11 h
        refine lv_iload_n hx hb dX6_isUnder_14 rfl (lv_at hl 0 rfl) ?_
        refine lv_iconst (v := 3) hx hb dX6_isUnder_15 (by decide) ?_
        refine lv_icmp_eq (tgt := 29) hx hb dX6_isUnder_16 (by decide) (fun c16 => ?_) (fun c16 => ?_)
        · replace h := it_t c16 h
          refine lv_iconst (v := 1) hx hb dX6_isUnder_29 (by decide) ?_
          refine lv_goto (tgt := 34) hx hb dX6_isUnder_30 (by decide) ?_
          exact rt_z (r := true) C hP hD hS dX6_isUnder_34 ⟨Option.some.inj h, rfl⟩
        · replace h := it_f c16 h
          exact w_X6_isUnder_19 C hP hD hS hl h
def f_X6_isUnder (x0 : Int32) (x1 : Int32) (M : Mem) : Option (Bool) := b_X6_isUnder_0 M x0 x1
theorem c_X6_isUnder {l : Launch} {D : va_G} {cy : Nat → ClassId} {ad : Nat → Nat} {zz : (Nat → Nat) × (Nat → Nat)} {x0 : Int32} {x1 : Int32} {M : Mem} {rr : Bool} (h : f_X6_isUnder x0 x1 M = some rr) : CTi l D cy ad zz 100 21 yX6_isUnder (.code yX6_isUnder cX6_isUnder 2 (some .boolean) :: tb) ({ frames := 0, cells := 0, slots := 0, locals := 0 } : Room) [.int x0, .int x1] M (b2i rr) M := by
  intro sz
  refine CX.of (by decide +kernel) (fun p e s m args below meth c H ls C hP hD hS hl => ?_) (Nat.le_of_ble_eq_true rfl)
  exact w_X6_isUnder_0 C hP hD hS hl h
theorem es_X6_isUnder : yX6_isUnder.cls ≠ "java/lang/invoke/MethodHandle" ∧ yX6_isUnder.cls ≠ "java/lang/invoke/VarHandle" ∧ (parseMethodDescriptor yX6_isUnder.desc).map (fun d => d.parameters.length) = some 2 := by decide +kernel
def b_X6_taken_0 (M : Mem) (x1 : Int32) (x2 : Int32) : Option (Int32) := (f_X6_in x2 (0 : Int32) (6 : Int32) M).bind fun r4 => (if r4 = true then (f_X6_in x1 (0 : Int32) (11 : Int32) M).bind fun r17 => (if r17 = true then (if (x1 - x1 / (6 : Int32) * (6 : Int32)) < (FI M 100 0) then (if x1 < (6 : Int32) then (if (6 : Int32) ≤ x2 then some (-13 : Int32) else gd (inb x1 (len 101)) ((f_X6_isUnder (AI M 101 x1.toNatClampNeg) x2 M).bind fun r84 => (if r84 = true then some x1 else some (-13 : Int32)))) else (if x2 = (6 : Int32) then gd (inb (((5 : Int32) * (x1 - (6 : Int32))) + (4 : Int32)) (len 103)) (some (AI M 103 (((5 : Int32) * (x1 - (6 : Int32))) + (4 : Int32)).toNatClampNeg)) else some (-13 : Int32))) else some (-11 : Int32)) else some (-12 : Int32)) else some (-2 : Int32))
set_option maxHeartbeats 4000000 in
set_option maxRecDepth 100000 in
theorem w_X6_taken_0 (C : CX p s m args meth c cX6_taken 3 (some .int) RX6 D cy ad zz 100 21 A) {M : Mem} {x1 : Int32} {x2 : Int32} {rr : Int32} {H : Heap} {locs : List Loc} (hP : va_P D vwCl (pool cy ad 100 21 M) H) (hD : va_D A (pool cy ad 100 21 M)) (hS : va_S A s.heap H locs) {ls : Array Slot} (hl : lv_has ls 3 [(0, .ref (ad 100)), (1, .int x1), (2, .int x2)]) (h : b_X6_taken_0 M x1 x2 = some rr) : W p l e ({ frames := 1, cells := 0, slots := 0, locals := 22 } : Room) s m args below meth c H locs 0 0 (MQ below (va_Qi (fun (x : Int32) (_ : Unit) => x = rr) (fun _ t => PA D cy ad 100 21 A M t) A) args s 0 0 A) (F0 m 0 ls []) := by
  obtain ⟨hx, hb, hml, hown, hts, hr, hlk, hK, hN, hA, hX⟩ := id C
  unfold b_X6_taken_0 at h
  refine lv_iload_n hx hb dX6_taken_0 rfl (lv_at hl 2 rfl) ?_
  refine lv_iconst (v := 0) hx hb dX6_taken_1 (by decide) ?_
  refine lv_bipush (v := 6) hx hb dX6_taken_2 (by decide) ?_
  obtain ⟨r4, g4, h⟩ := bd_of h
  refine call_iS (As := [.int x2, .int (0 : Int32), .int (6 : Int32)]) (rest := []) C hP hD hS (c_X6_in g4) (gS wd_843 wd_844 wd_75 wd_845) es_X6_in ⟨rfl, rfl⟩ ⟨Nat.le_of_ble_eq_true rfl, Nat.le_of_ble_eq_true rfl⟩ hl.1 rfl (Nat.le_of_ble_eq_true rfl) dX6_taken_4 (fun H locs hP hD hS => ?_)
  refine lv_if_ne (tgt := 13) hx hb dX6_taken_7 (by decide) (fun c7 => ?_) (fun c7 => ?_)
  · replace h := it_t (b2i_1 c7) h
    refine lv_iload_n hx hb dX6_taken_13 rfl (lv_at hl 1 rfl) ?_
    refine lv_iconst (v := 0) hx hb dX6_taken_14 (by decide) ?_
    refine lv_bipush (v := 11) hx hb dX6_taken_15 (by decide) ?_
    obtain ⟨r17, g17, h⟩ := bd_of h
    refine call_iS (As := [.int x1, .int (0 : Int32), .int (11 : Int32)]) (rest := []) C hP hD hS (c_X6_in g17) (gS wd_843 wd_844 wd_75 wd_845) es_X6_in ⟨rfl, rfl⟩ ⟨Nat.le_of_ble_eq_true rfl, Nat.le_of_ble_eq_true rfl⟩ hl.1 rfl (Nat.le_of_ble_eq_true rfl) dX6_taken_17 (fun H locs hP hD hS => ?_)
    refine lv_if_ne (tgt := 26) hx hb dX6_taken_20 (by decide) (fun c20 => ?_) (fun c20 => ?_)
    · replace h := it_t (b2i_1 c20) h
      refine lv_iload_n hx hb dX6_taken_26 rfl (lv_at hl 1 rfl) ?_
      refine lv_bipush (v := 6) hx hb dX6_taken_27 (by decide) ?_
      refine lv_irem hx hb dX6_taken_29 (by decide) ?_
      refine lv_aload_n hx hb dX6_taken_30 rfl (lv_at hl 0 rfl) ?_
      refine gf_6_0 C hP (iL (by decide)) (by decide) wd_882 dX6_taken_31 ?_
      refine lv_icmp_lt (tgt := 40) hx hb dX6_taken_34 (by decide) (fun c34 => ?_) (fun c34 => ?_)
      · replace h := it_t c34 h
        refine lv_iload_n hx hb dX6_taken_40 rfl (lv_at hl 1 rfl) ?_
        refine lv_bipush (v := 6) hx hb dX6_taken_41 (by decide) ?_
        refine lv_icmp_lt (tgt := 71) hx hb dX6_taken_43 (by decide) (fun c43 => ?_) (fun c43 => ?_)
        · replace h := it_t c43 h
          refine lv_iload_n hx hb dX6_taken_71 rfl (lv_at hl 2 rfl) ?_
          refine lv_bipush (v := 6) hx hb dX6_taken_72 (by decide) ?_
          refine lv_icmp_ge (tgt := 94) hx hb dX6_taken_74 (by decide) (fun c74 => ?_) (fun c74 => ?_)
          · replace h := it_t c74 h
            refine lv_bipush (v := -13) hx hb dX6_taken_94 (by decide) ?_
            exact rt_i (r := (-13 : Int32)) C hP hD hS dX6_taken_96 ⟨Option.some.inj h, rfl⟩
          · replace h := it_f c74 h
            refine lv_aload_n hx hb dX6_taken_77 rfl (lv_at hl 0 rfl) ?_
            refine gf_6_1 C hP (iL (by decide)) (by decide) wd_883 dX6_taken_78 ?_
            refine lv_iload_n hx hb dX6_taken_81 rfl (lv_at hl 1 rfl) ?_
            obtain ⟨gi1, h⟩ := gd_of h
            refine ia_ld C hP (iL (by decide)) (by decide) gi1 dX6_taken_82 ?_
            refine lv_iload_n hx hb dX6_taken_83 rfl (lv_at hl 2 rfl) ?_
            obtain ⟨r84, g84, h⟩ := bd_of h
            refine call_iS (As := [.int (AI M 101 x1.toNatClampNeg), .int x2]) (rest := []) C hP hD hS (c_X6_isUnder g84) (gS wd_1276 wd_1277 wd_75 wd_1278) es_X6_isUnder ⟨rfl, rfl⟩ ⟨Nat.le_of_ble_eq_true rfl, Nat.le_of_ble_eq_true rfl⟩ hl.1 rfl (Nat.le_of_ble_eq_true rfl) dX6_taken_84 (fun H locs hP hD hS => ?_)
            refine lv_if_eq (tgt := 94) hx hb dX6_taken_87 (by decide) (fun c87 => ?_) (fun c87 => ?_)
            · replace h := it_f (b2i_n c87) h
              refine lv_bipush (v := -13) hx hb dX6_taken_94 (by decide) ?_
              exact rt_i (r := (-13 : Int32)) C hP hD hS dX6_taken_96 ⟨Option.some.inj h, rfl⟩
            · replace h := it_t (b2i_1 c87) h
              refine lv_iload_n hx hb dX6_taken_90 rfl (lv_at hl 1 rfl) ?_
              refine lv_goto (tgt := 96) hx hb dX6_taken_91 (by decide) ?_
              exact rt_i (r := x1) C hP hD hS dX6_taken_96 ⟨Option.some.inj h, rfl⟩
        · replace h := it_f c43 h
          refine lv_iload_n hx hb dX6_taken_46 rfl (lv_at hl 2 rfl) ?_
          refine lv_bipush (v := 6) hx hb dX6_taken_47 (by decide) ?_
          refine lv_icmp_ne (tgt := 68) hx hb dX6_taken_49 (by decide) (fun c49 => ?_) (fun c49 => ?_)
          · replace h := it_f c49 h
            refine lv_bipush (v := -13) hx hb dX6_taken_68 (by decide) ?_
            exact rt_i (r := (-13 : Int32)) C hP hD hS dX6_taken_70 ⟨Option.some.inj h, rfl⟩
          · replace h := it_t c49 h
            refine lv_aload_n hx hb dX6_taken_52 rfl (lv_at hl 0 rfl) ?_
            refine gf_6_3 C hP (iL (by decide)) (by decide) wd_885 dX6_taken_53 ?_
            refine lv_iconst (v := 5) hx hb dX6_taken_56 (by decide) ?_
            refine lv_iload_n hx hb dX6_taken_57 rfl (lv_at hl 1 rfl) ?_
            refine lv_bipush (v := 6) hx hb dX6_taken_58 (by decide) ?_
            refine lv_isub hx hb dX6_taken_60 ?_
            refine lv_imul hx hb dX6_taken_61 ?_
            refine lv_iconst (v := 4) hx hb dX6_taken_62 (by decide) ?_
            refine lv_iadd hx hb dX6_taken_63 ?_
            obtain ⟨gi2, h⟩ := gd_of h
            refine ia_ld C hP (iL (by decide)) (by decide) gi2 dX6_taken_64 ?_
            refine lv_goto (tgt := 70) hx hb dX6_taken_65 (by decide) ?_
            exact rt_i (r := (AI M 103 (((5 : Int32) * (x1 - (6 : Int32))) + (4 : Int32)).toNatClampNeg)) C hP hD hS dX6_taken_70 ⟨Option.some.inj h, rfl⟩
      · replace h := it_f c34 h
        refine lv_bipush (v := -11) hx hb dX6_taken_37 (by decide) ?_
        exact rt_i (r := (-11 : Int32)) C hP hD hS dX6_taken_39 ⟨Option.some.inj h, rfl⟩
    · replace h := it_f (b2i_n c20) h
      refine lv_bipush (v := -12) hx hb dX6_taken_23 (by decide) ?_
      exact rt_i (r := (-12 : Int32)) C hP hD hS dX6_taken_25 ⟨Option.some.inj h, rfl⟩
  · replace h := it_f (b2i_n c7) h
    refine lv_bipush (v := -2) hx hb dX6_taken_10 (by decide) ?_
    exact rt_i (r := (-2 : Int32)) C hP hD hS dX6_taken_12 ⟨Option.some.inj h, rfl⟩
def f_X6_taken (x1 : Int32) (x2 : Int32) (M : Mem) : Option (Int32) := b_X6_taken_0 M x1 x2
theorem c_X6_taken {l : Launch} {D : va_G} {cy : Nat → ClassId} {ad : Nat → Nat} {zz : (Nat → Nat) × (Nat → Nat)} {x1 : Int32} {x2 : Int32} {M : Mem} {rr : Int32} (h : f_X6_taken x1 x2 M = some rr) : CTi l D cy ad zz 100 21 yX6_taken (.code yX6_taken cX6_taken 3 (some .int) :: tb) ({ frames := 1, cells := 0, slots := 0, locals := 22 } : Room) [.ref (ad 100), .int x1, .int x2] M rr M := by
  intro sz
  refine CX.of (by decide +kernel) (fun p e s m args below meth c H ls C hP hD hS hl => ?_) (Nat.le_of_ble_eq_true rfl)
  exact w_X6_taken_0 C hP hD hS hl h
theorem ev_X6_taken : yX6_taken.cls = RX6 ∧ yX6_taken.cls ≠ "java/lang/invoke/MethodHandle" ∧ yX6_taken.cls ≠ "java/lang/invoke/VarHandle" ∧ (parseMethodDescriptor yX6_taken.desc).map (fun d => d.parameters.length) = some 2 := by decide +kernel
end
