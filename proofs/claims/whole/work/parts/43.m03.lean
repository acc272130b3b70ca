section
variable {p : Program} {l : Launch} {e : Env} {s : State} {m : MethodId} {args : Array Value} {below : List Frame} {meth : Method} {c : Code} {D : va_G} {cy : Nat → ClassId} {ad : Nat → Nat} {zz : (Nat → Nat) × (Nat → Nat)} {A : Nat → Prop}
def b_X6_darn_52 (x1 : Int32) (x2 : Int32) (x3 : Int32) (x4 : Int32) (M : Mem) : Option (Int32 × Mem) := gd (inb (((16 : Int32) * x1) + x2) (len 104)) (some (x4, (sAI M 104 (((16 : Int32) * x1) + x2).toNatClampNeg x3)))
set_option maxHeartbeats 4000000 in
set_option maxRecDepth 100000 in
theorem w_X6_darn_52 (C : CX p s m args meth c cX6_darn 5 (some .int) RX6 D cy ad zz 100 21 A) {M : Mem} {x1 : Int32} {x2 : Int32} {x3 : Int32} {rr : Int32} {M' : Mem} {x4 : Int32} {H : Heap} {locs : List Loc} (hP : va_P D vwCl (pool cy ad 100 21 M) H) (hD : va_D A (pool cy ad 100 21 M)) (hS : va_S A s.heap H locs) {ls : Array Slot} (hl : lv_has ls 5 [(0, .ref (ad 100)), (1, .int x1), (2, .int x2), (3, .int x3), (4, .int x4)]) (h : b_X6_darn_52 x1 x2 x3 x4 M = some (rr, M')) : W p l e ({ frames := 2, cells := 0, slots := 0, locals := 43 } : Room) s m args below meth c H locs 0 0 (MQ below (va_Qi (fun (x : Int32) (_ : Unit) => x = rr) (fun _ t => PA D cy ad 100 21 A M' t) A) args s 0 0 A) (F0 m 52 ls []) := by
  obtain ⟨hx, hb, hml, hown, hts, hr, hlk, hK, hN, hA, hX⟩ := id C
  unfold b_X6_darn_52 at h
  refine lv_aload_n hx hb dX6_darn_52 rfl (lv_at hl 0 rfl) ?_
  refine gf_6_4 C hP (iL (by decide)) (by decide) wd_886 dX6_darn_53 ?_
  refine lv_bipush (v := 16) hx hb dX6_darn_56 (by decide) ?_
  refine lv_iload_n hx hb dX6_darn_58 rfl (lv_at hl 1 rfl) ?_
  refine lv_imul hx hb dX6_darn_59 ?_
  refine lv_iload_n hx hb dX6_darn_60 rfl (lv_at hl 2 rfl) ?_
  refine lv_iadd hx hb dX6_darn_61 ?_
  refine lv_iload_n hx hb dX6_darn_62 rfl (lv_at hl 3 rfl) ?_
  obtain ⟨gi1, h⟩ := gd_of h
  refine ia_st C hP hD hS (iL (by decide)) (by decide) gi1 dX6_darn_63 (fun H locs hP hD hS => ?_)
  refine lv_iload hx hb dX6_darn_64 (lv_at hl 4 rfl) ?_
  exact rt_i (r := x4) C hP hD hS dX6_darn_66 (rw_end h)
def b_X6_darn_0 (x1 : Int32) (x2 : Int32) (x3 : Int32) (M : Mem) : Option (Int32 × Mem) := (f_X6_isOne x1 M).bind fun r2 => (if r2 = true then gd (inb x1 (len 105)) ((f_X6_in x2 (0 : Int32) ((AI M 105 x1.toNatClampNeg) - (1 : Int32)) M).bind fun r21 => (if r21 = true then (f_X6_in x3 (0 : Int32) (4 : Int32) M).bind fun r30 => (if r30 = true then gd (inb (((16 : Int32) * x1) + x2) (len 104)) (b_X6_darn_52 x1 x2 x3 (AI M 104 (((16 : Int32) * x1) + x2).toNatClampNeg) M) else some ((-7 : Int32), M)) else some ((-7 : Int32), M))) else some ((-5 : Int32), M))
set_option maxHeartbeats 4000000 in
set_option maxRecDepth 100000 in
theorem w_X6_darn_0 (C : CX p s m args meth c cX6_darn 5 (some .int) RX6 D cy ad zz 100 21 A) {M : Mem} {x1 : Int32} {x2 : Int32} {x3 : Int32} {rr : Int32} {M' : Mem} {H : Heap} {locs : List Loc} (hP : va_P D vwCl (pool cy ad 100 21 M) H) (hD : va_D A (pool cy ad 100 21 M)) (hS : va_S A s.heap H locs) {ls : Array Slot} (hl : lv_has ls 5 [(0, .ref (ad 100)), (1, .int x1), (2, .int x2), (3, .int x3)]) (h : b_X6_darn_0 x1 x2 x3 M = some (rr, M')) : W p l e ({ frames := 2, cells := 0, slots := 0, locals := 43 } : Room) s m args below meth c H locs 0 0 (MQ below (va_Qi (fun (x : Int32) (_ : Unit) => x = rr) (fun _ t => PA D cy ad 100 21 A M' t) A) args s 0 0 A) (F0 m 0 ls []) := by
  obtain ⟨hx, hb, hml, hown, hts, hr, hlk, hK, hN, hA, hX⟩ := id C
  unfold b_X6_darn_0 at h
  refine lv_aload_n hx hb dX6_darn_0 rfl (lv_at hl 0 rfl) ?_
  refine lv_iload_n hx hb dX6_darn_1 rfl (lv_at hl 1 rfl) ?_
  obtain ⟨r2, g2, h⟩ := bd_of h
  refine call_iV (As := [.int x1]) (rest := []) C hP hD hS (c_X6_isOne g2) (iL (by decide)) ⟨6, _, _, ent_6 (by decide), rfl, rfl⟩ (gV wd_1034 wd_1036 wd_39 wd_75 wd_1037) ev_X6_isOne ⟨rfl, rfl⟩ ⟨Nat.le_of_ble_eq_true rfl, Nat.le_of_ble_eq_true rfl⟩ hl.1 rfl (Nat.le_of_ble_eq_true rfl) dX6_darn_2 (fun H locs hP hD hS => ?_)
  refine lv_if_ne (tgt := 11) hx hb dX6_darn_5 (by decide) (fun c5 => ?_) (fun c5 => ?_)
  · replace h := it_t (b2i_1 c5) h
    refine lv_iload_n hx hb dX6_darn_11 rfl (lv_at hl 2 rfl) ?_
    refine lv_iconst (v := 0) hx hb dX6_darn_12 (by decide) ?_
    refine lv_aload_n hx hb dX6_darn_13 rfl (lv_at hl 0 rfl) ?_
    refine gf_6_5 C hP (iL (by decide)) (by decide) wd_887 dX6_darn_14 ?_
    refine lv_iload_n hx hb dX6_darn_17 rfl (lv_at hl 1 rfl) ?_
    obtain ⟨gi1, h⟩ := gd_of h
    refine ia_ld C hP (iL (by decide)) (by decide) gi1 dX6_darn_18 ?_
    refine lv_iconst (v := 1) hx hb dX6_darn_19 (by decide) ?_
    refine lv_isub hx hb dX6_darn_20 ?_
    obtain ⟨r21, g21, h⟩ := bd_of h
    refine call_iS (As := [.int x2, .int (0 : Int32), .int ((AI M 105 x1.toNatClampNeg) - (1 : Int32))]) (rest := []) C hP hD hS (c_X6_in g21) (gS wd_843 wd_844 wd_75 wd_845) es_X6_in ⟨rfl, rfl⟩ ⟨Nat.le_of_ble_eq_true rfl, Nat.le_of_ble_eq_true rfl⟩ hl.1 rfl (Nat.le_of_ble_eq_true rfl) dX6_darn_21 (fun H locs hP hD hS => ?_)
    refine lv_if_eq (tgt := 36) hx hb dX6_darn_24 (by decide) (fun c24 => ?_) (fun c24 => ?_)
    · replace h := it_f (b2i_n c24) h
      refine lv_bipush (v := -7) hx hb dX6_darn_36 (by decide) ?_
      exact rt_i (r := (-7 : Int32)) C hP hD hS dX6_darn_38 (rw_end h)
    · replace h := it_t (b2i_1 c24) h
      refine lv_iload_n hx hb dX6_darn_27 rfl (lv_at hl 3 rfl) ?_
      refine lv_iconst (v := 0) hx hb dX6_darn_28 (by decide) ?_
      refine lv_iconst (v := 4) hx hb dX6_darn_29 (by decide) ?_
      obtain ⟨r30, g30, h⟩ := bd_of h
      refine call_iS (As := [.int x3, .int (0 : Int32), .int (4 : Int32)]) (rest := []) C hP hD hS (c_X6_in g30) (gS wd_843 wd_844 wd_75 wd_845) es_X6_in ⟨rfl, rfl⟩ ⟨Nat.le_of_ble_eq_true rfl, Nat.le_of_ble_eq_true rfl⟩ hl.1 rfl (Nat.le_of_ble_eq_true rfl) dX6_darn_30 (fun H locs hP hD hS => ?_)
      refine lv_if_ne (tgt := 39) hx hb dX6_darn_33 (by decide) (fun c33 => ?_) (fun c33 => ?_)
      · replace h := it_t (b2i_1 c33) h
        refine lv_aload_n hx hb dX6_darn_39 rfl (lv_at hl 0 rfl) ?_
        refine gf_6_4 C hP (iL (by decide)) (by decide) wd_886 dX6_darn_40 ?_
        refine lv_bipush (v := 16) hx hb dX6_darn_43 (by decide) ?_
        refine lv_iload_n hx hb dX6_darn_45 rfl (lv_at hl 1 rfl) ?_
        refine lv_imul hx hb dX6_darn_46 ?_
        refine lv_iload_n hx hb dX6_darn_47 rfl (lv_at hl 2 rfl) ?_
        refine lv_iadd hx hb dX6_darn_48 ?_
        obtain ⟨gi2, h⟩ := gd_of h
        refine ia_ld C hP (iL (by decide)) (by decide) gi2 dX6_darn_49 ?_
        refine lv_istore (lv' := [(4, .int (AI M 104 (((16 : Int32) * x1) + x2).toNatClampNeg)), (0, .ref (ad 100)), (1, .int x1), (2, .int x2), (3, .int x3)]) hx hb dX6_darn_50 hl (by decide) rfl (fun ls hl => ?_)
        exact w_X6_darn_52 C hP hD hS (lv_sub hl [1, 2, 3, 4, 0] rfl) h
      · replace h := it_f (b2i_n c33) h
        refine lv_bipush (v := -7) hx hb dX6_darn_36 (by decide) ?_
        exact rt_i (r := (-7 : Int32)) C hP hD hS dX6_darn_38 (rw_end h)
  · replace h := it_f (b2i_n c5) h
    refine lv_bipush (v := -5) hx hb dX6_darn_8 (by decide) ?_
    exact rt_i (r := (-5 : Int32)) C hP hD hS dX6_darn_10 (rw_end h)
def f_X6_darn (x1 : Int32) (x2 : Int32) (x3 : Int32) (M : Mem) : Option (Int32 × Mem) := b_X6_darn_0 x1 x2 x3 M
theorem c_X6_darn {l : Launch} {D : va_G} {cy : Nat → ClassId} {ad : Nat → Nat} {zz : (Nat → Nat) × (Nat → Nat)} {x1 : Int32} {x2 : Int32} {x3 : Int32} {M : Mem} {rr : Int32} {M' : Mem} (h : f_X6_darn x1 x2 x3 M = some (rr, M')) : CTi l D cy ad zz 100 21 yX6_darn (.code yX6_darn cX6_darn 5 (some .int) :: tb) ({ frames := 2, cells := 0, slots := 0, locals := 43 } : Room) [.ref (ad 100), .int x1, .int x2, .int x3] M rr M' := by
  intro sz
  refine CX.of (by decide +kernel) (fun p e s m args below meth c H ls C hP hD hS hl => ?_) (Nat.le_of_ble_eq_true rfl)
  exact w_X6_darn_0 C hP hD hS hl h
theorem ev_X6_darn : yX6_darn.cls = RX6 ∧ yX6_darn.cls ≠ "java/lang/invoke/MethodHandle" ∧ yX6_darn.cls ≠ "java/lang/invoke/VarHandle" ∧ (parseMethodDescriptor yX6_darn.desc).map (fun d => d.parameters.length) = some 3 := by decide +kernel
def b_X6_thatWay_0 (M : Mem) (x0 : Int32) (x1 : Int32) : Option (Int32) := (if x1 = 0 then (if (7 : Int32) ≤ (x0 - x0 / (8 : Int32) * (8 : Int32)) then some (-1 : Int32) else some (x0 + (1 : Int32))) else (if x1 = 1 then (if (56 : Int32) ≤ x0 then some (-1 : Int32) else some (x0 + (8 : Int32))) else (if x1 = 2 then (if (x0 - x0 / (8 : Int32) * (8 : Int32)) ≤ 0 then some (-1 : Int32) else some (x0 - (1 : Int32))) else (if x0 ≤ (7 : Int32) then some (-1 : Int32) else some (x0 - (8 : Int32))))))
set_option maxHeartbeats 4000000 in
set_option maxRecDepth 100000 in
theorem w_X6_thatWay_0 (C : CX p s m args meth c cX6_thatWay 2 (some .int) RX6 D cy ad zz 100 21 A) {M : Mem} {x0 : Int32} {x1 : Int32} {rr : Int32} {H : Heap} {locs : List Loc} (hP : va_P D vwCl (pool cy ad 100 21 M) H) (hD : va_D A (pool cy ad 100 21 M)) (hS : va_S A s.heap H locs) {ls : Array Slot} (hl : lv_has ls 2 [(0, .int x0), (1, .int x1)]) (h : b_X6_thatWay_0 M x0 x1 = some rr) : W p l e ({ frames := 0, cells := 0, slots := 0, locals := 0 } : Room) s m args below meth c H locs 0 0 (MQ below (va_Qi (fun (x : Int32) (_ : Unit) => x = rr) (fun _ t => PA D cy ad 100 21 A M t) A) args s 0 0 A) (F0 m 0 ls []) := by
  obtain ⟨hx, hb, hml, hown, hts, hr, hlk, hK, hN, hA, hX⟩ := id C
  unfold b_X6_thatWay_0 at h
  refine lv_iload_n hx hb dX6_thatWay_0 rfl (lv_at hl 1 rfl) ?_
  by_cases c1_0 : x1 = 0
  · replace h := it_t c1_0 h
    refine lv_tableIn (off := 27) (tgt := 28) hx hb dX6_thatWay_1 (by rw [c1_0]; decide) (by rw [c1_0]; decide) (by rw [c1_0]; rfl) (by decide) ?_
    refine lv_iload_n hx hb dX6_thatWay_28 rfl (lv_at hl 0 rfl) ?_
    refine lv_bipush (v := 8) hx hb dX6_thatWay_29 (by decide) ?_
    refine lv_irem hx hb dX6_thatWay_31 (by decide) ?_
    refine lv_bipush (v := 7) hx hb dX6_thatWay_32 (by decide) ?_
    refine lv_icmp_ge (tgt := 43) hx hb dX6_thatWay_34 (by decide) (fun c34 => ?_) (fun c34 => ?_)
    · replace h := it_t c34 h
      refine lv_iconst (v := -1) hx hb dX6_thatWay_43 (by decide) ?_
      exact rt_i (r := (-1 : Int32)) C hP hD hS dX6_thatWay_44 ⟨Option.some.inj h, rfl⟩
    · replace h := it_f c34 h
      refine lv_iload_n hx hb dX6_thatWay_37 rfl (lv_at hl 0 rfl) ?_
      refine lv_iconst (v := 1) hx hb dX6_thatWay_38 (by decide) ?_
      refine lv_iadd hx hb dX6_thatWay_39 ?_
      refine lv_goto (tgt := 44) hx hb dX6_thatWay_40 (by decide) ?_
      exact rt_i (r := (x0 + (1 : Int32))) C hP hD hS dX6_thatWay_44 ⟨Option.some.inj h, rfl⟩
  · replace h := it_f c1_0 h
    by_cases c1_1 : x1 = 1
    · replace h := it_t c1_1 h
      refine lv_tableIn (off := 44) (tgt := 45) hx hb dX6_thatWay_1 (by rw [c1_1]; decide) (by rw [c1_1]; decide) (by rw [c1_1]; rfl) (by decide) ?_
      refine lv_iload_n hx hb dX6_thatWay_45 rfl (lv_at hl 0 rfl) ?_
      refine lv_bipush (v := 56) hx hb dX6_thatWay_46 (by decide) ?_
      refine lv_icmp_ge (tgt := 58) hx hb dX6_thatWay_48 (by decide) (fun c48 => ?_) (fun c48 => ?_)
      · replace h := it_t c48 h
        refine lv_iconst (v := -1) hx hb dX6_thatWay_58 (by decide) ?_
        exact rt_i (r := (-1 : Int32)) C hP hD hS dX6_thatWay_59 ⟨Option.some.inj h, rfl⟩
      · replace h := it_f c48 h
        refine lv_iload_n hx hb dX6_thatWay_51 rfl (lv_at hl 0 rfl) ?_
        refine lv_bipush (v := 8) hx hb dX6_thatWay_52 (by decide) ?_
        refine lv_iadd hx hb dX6_thatWay_54 ?_
        refine lv_goto (tgt := 59) hx hb dX6_thatWay_55 (by decide) ?_
        exact rt_i (r := (x0 + (8 : Int32))) C hP hD hS dX6_thatWay_59 ⟨Option.some.inj h, rfl⟩
    · replace h := it_f c1_1 h
      by_cases c1_2 : x1 = 2
      · replace h := it_t c1_2 h
        refine lv_tableIn (off := 59) (tgt := 60) hx hb dX6_thatWay_1 (by rw [c1_2]; decide) (by rw [c1_2]; decide) (by rw [c1_2]; rfl) (by decide) ?_
        refine lv_iload_n hx hb dX6_thatWay_60 rfl (lv_at hl 0 rfl) ?_
        refine lv_bipush (v := 8) hx hb dX6_thatWay_61 (by decide) ?_
        refine lv_irem hx hb dX6_thatWay_63 (by decide) ?_
        refine lv_if_le (tgt := 73) hx hb dX6_thatWay_64 (by decide) (fun c64 => ?_) (fun c64 => ?_)
        · replace h := it_t c64 h
          refine lv_iconst (v := -1) hx hb dX6_thatWay_73 (by decide) ?_
          exact rt_i (r := (-1 : Int32)) C hP hD hS dX6_thatWay_74 ⟨Option.some.inj h, rfl⟩
        · replace h := it_f c64 h
          refine lv_iload_n hx hb dX6_thatWay_67 rfl (lv_at hl 0 rfl) ?_
          refine lv_iconst (v := 1) hx hb dX6_thatWay_68 (by decide) ?_
          refine lv_isub hx hb dX6_thatWay_69 ?_
          refine lv_goto (tgt := 74) hx hb dX6_thatWay_70 (by decide) ?_
          exact rt_i (r := (x0 - (1 : Int32))) C hP hD hS dX6_thatWay_74 ⟨Option.some.inj h, rfl⟩
      · replace h := it_f c1_2 h
        have e1_0 : x1.toInt ≠ 0 := fun q => c1_0 (Int32.toInt_inj.mp (q.trans (by decide)))
        have e1_1 : x1.toInt ≠ 1 := fun q => c1_1 (Int32.toInt_inj.mp (q.trans (by decide)))
        have e1_2 : x1.toInt ≠ 2 := fun q => c1_2 (Int32.toInt_inj.mp (q.trans (by decide)))
        refine lv_tableOut (tgt := 75) hx hb dX6_thatWay_1 (by omega) (by decide) ?_
        refine lv_iload_n hx hb dX6_thatWay_75 rfl (lv_at hl 0 rfl) ?_
        refine lv_bipush (v := 7) hx hb dX6_thatWay_76 (by decide) ?_
        refine lv_icmp_le (tgt := 88) hx hb dX6_thatWay_78 (by decide) (fun c78 => ?_) (fun c78 => ?_)
        · replace h := it_t c78 h
          refine lv_iconst (v := -1) hx hb dX6_thatWay_88 (by decide) ?_
          exact rt_i (r := (-1 : Int32)) C hP hD hS dX6_thatWay_89 ⟨Option.some.inj h, rfl⟩
        · replace h := it_f c78 h
          refine lv_iload_n hx hb dX6_thatWay_81 rfl (lv_at hl 0 rfl) ?_
          refine lv_bipush (v := 8) hx hb dX6_thatWay_82 (by decide) ?_
          refine lv_isub hx hb dX6_thatWay_84 ?_
          refine lv_goto (tgt := 89) hx hb dX6_thatWay_85 (by decide) ?_
          exact rt_i (r := (x0 - (8 : Int32))) C hP hD hS dX6_thatWay_89 ⟨Option.some.inj h, rfl⟩
def f_X6_thatWay (x0 : Int32) (x1 : Int32) (M : Mem) : Option (Int32) := b_X6_thatWay_0 M x0 x1
theorem c_X6_thatWay {l : Launch} {D : va_G} {cy : Nat → ClassId} {ad : Nat → Nat} {zz : (Nat → Nat) × (Nat → Nat)} {x0 : Int32} {x1 : Int32} {M : Mem} {rr : Int32} (h : f_X6_thatWay x0 x1 M = some rr) : CTi l D cy ad zz 100 21 yX6_thatWay (.code yX6_thatWay cX6_thatWay 2 (some .int) :: tb) ({ frames := 0, cells := 0, slots := 0, locals := 0 } : Room) [.int x0, .int x1] M rr M := by
  intro sz
  refine CX.of (by decide +kernel) (fun p e s m args below meth c H ls C hP hD hS hl => ?_) (Nat.le_of_ble_eq_true rfl)
  exact w_X6_thatWay_0 C hP hD hS hl h
theorem es_X6_thatWay : yX6_thatWay.cls ≠ "java/lang/invoke/MethodHandle" ∧ yX6_thatWay.cls ≠ "java/lang/invoke/VarHandle" ∧ (parseMethodDescriptor yX6_thatWay.desc).map (fun d => d.parameters.length) = some 2 := by decide +kernel
def b_X6_stitches_214 (x1 : Int32) (x4 : Int32) (M : Mem) : Option (Bool × Mem) := gd (inb x1 (len 119)) (gd (inb x1 (len 119)) (some (true, (sAJ M 119 x1.toNatClampNeg ((AJ M 119 x1.toNatClampNeg) ||| ((1 : Int64) <<< (x4.toInt64 &&& 63)))))))
set_option maxHeartbeats 4000000 in
set_option maxRecDepth 100000 in
theorem w_X6_stitches_214 (C : CX p s m args meth c cX6_stitches 5 (some .boolean) RX6 D cy ad zz 100 21 A) {M : Mem} {x1 : Int32} {rr : Bool} {M' : Mem} {x4 : Int32} {H : Heap} {locs : List Loc} (hP : va_P D vwCl (pool cy ad 100 21 M) H) (hD : va_D A (pool cy ad 100 21 M)) (hS : va_S A s.heap H locs) {ls : Array Slot} (hl : lv_has ls 5 [(0, .ref (ad 100)), (1, .int x1), (4, .int x4)]) (h : b_X6_stitches_214 x1 x4 M = some (rr, M')) : W p l e ({ frames := 1, cells := 0, slots := 0, locals := 22 } : Room) s m args below meth c H locs 0 0 (MQ below (va_Qi (fun (x : Int32) (_ : Unit) => x = b2i rr) (fun _ t => PA D cy ad 100 21 A M' t) A) args s 0 0 A) (F0 m 214 ls []) := by
  obtain ⟨hx, hb, hml, hown, hts, hr, hlk, hK, hN, hA, hX⟩ := id C
  unfold b_X6_stitches_214 at h
  refine lv_aload_n hx hb dX6_stitches_214 rfl (lv_at hl 0 rfl) ?_
  refine gf_6_33 C hP (iL (by decide)) (by decide) wd_915 dX6_stitches_215 ?_
  refine lv_iload_n hx hb dX6_stitches_218 rfl (lv_at hl 1 rfl) ?_
  refine lv_dup2_11 hx hb dX6_stitches_219 rfl rfl ?_
  obtain ⟨gi1, h⟩ := gd_of h
  refine la_ld C hP (iL (by decide)) (by decide) gi1 dX6_stitches_220 ?_
  refine lv_lconst (v := 1) hx hb dX6_stitches_221 (by decide) ?_
  refine lv_iload hx hb dX6_stitches_222 (lv_at hl 2 rfl) ?_
  refine lv_lshl (v := ((1 : Int64) <<< (x4.toInt64 &&& 63))) hx hb dX6_stitches_224 rfl ?_
  refine lv_lor hx hb dX6_stitches_225 ?_
  obtain ⟨gi2, h⟩ := gd_of h
  refine la_st C hP hD hS (iL (by decide)) (by decide) gi2 dX6_stitches_226 (fun H locs hP hD hS => ?_)
  refine lv_iconst (v := 1) hx hb dX6_stitches_227 (by decide) ?_
  exact rt_z (r := true) C hP hD hS dX6_stitches_228 (rw_end h)
def b_X6_stitches_204 (x1 : Int32) (x4 : Int32) (M : Mem) : Option (Bool × Mem) := b_X6_stitches_214 x1 x4 (sFI M 100 34 ((FI M 100 34) + (1 : Int32)))
set_option maxHeartbeats 4000000 in
set_option maxRecDepth 100000 in
theorem w_X6_stitches_204 (C : CX p s m args meth c cX6_stitches 5 (some .boolean) RX6 D cy ad zz 100 21 A) {M : Mem} {x1 : Int32} {rr : Bool} {M' : Mem} {x4 : Int32} {H : Heap} {locs : List Loc} (hP : va_P D vwCl (pool cy ad 100 21 M) H) (hD : va_D A (pool cy ad 100 21 M)) (hS : va_S A s.heap H locs) {ls : Array Slot} (hl : lv_has ls 5 [(0, .ref (ad 100)), (1, .int x1), (4, .int x4)]) (h : b_X6_stitches_204 x1 x4 M = some (rr, M')) : W p l e ({ frames := 1, cells := 0, slots := 0, locals := 22 } : Room) s m args below meth c H locs 0 0 (MQ below (va_Qi (fun (x : Int32) (_ : Unit) => x = b2i rr) (fun _ t => PA D cy ad 100 21 A M' t) A) args s 0 0 A) (F0 m 204 ls []) := by
  obtain ⟨hx, hb, hml, hown, hts, hr, hlk, hK, hN, hA, hX⟩ := id C
  unfold b_X6_stitches_204 at h
  refine lv_aload_n hx hb dX6_stitches_204 rfl (lv_at hl 0 rfl) ?_
  refine lv_dup hx hb dX6_stitches_205 rfl ?_
  refine gf_6_34 C hP (iL (by decide)) (by decide) wd_916 dX6_stitches_206 ?_
  refine lv_iconst (v := 1) hx hb dX6_stitches_209 (by decide) ?_
  refine lv_iadd hx hb dX6_stitches_210 ?_
  refine pf_6_34 C hP hD hS (iL (by decide)) (by decide) wd_916 dX6_stitches_211 (fun H locs hP hD hS => ?_)
  exact w_X6_stitches_214 C hP hD hS hl h
def b_X6_stitches_194 (x1 : Int32) (x4 : Int32) (M : Mem) : Option (Bool × Mem) := gd (inb ((5 : Int32) * x1) (len 103)) (b_X6_stitches_204 x1 x4 (sAI M 103 ((5 : Int32) * x1).toNatClampNeg x4))
set_option maxHeartbeats 4000000 in
set_option maxRecDepth 100000 in
theorem w_X6_stitches_194 (C : CX p s m args meth c cX6_stitches 5 (some .boolean) RX6 D cy ad zz 100 21 A) {M : Mem} {x1 : Int32} {rr : Bool} {M' : Mem} {x4 : Int32} {H : Heap} {locs : List Loc} (hP : va_P D vwCl (pool cy ad 100 21 M) H) (hD : va_D A (pool cy ad 100 21 M)) (hS : va_S A s.heap H locs) {ls : Array Slot} (hl : lv_has ls 5 [(0, .ref (ad 100)), (1, .int x1), (4, .int x4)]) (h : b_X6_stitches_194 x1 x4 M = some (rr, M')) : W p l e ({ frames := 1, cells := 0, slots := 0, locals := 22 } : Room) s m args below meth c H locs 0 0 (MQ below (va_Qi (fun (x : Int32) (_ : Unit) => x = b2i rr) (fun _ t => PA D cy ad 100 21 A M' t) A) args s 0 0 A) (F0 m 194 ls []) := by
  obtain ⟨hx, hb, hml, hown, hts, hr, hlk, hK, hN, hA, hX⟩ := id C
  unfold b_X6_stitches_194 at h
  refine lv_aload_n hx hb dX6_stitches_194 rfl (lv_at hl 0 rfl) ?_
  refine gf_6_3 C hP (iL (by decide)) (by decide) wd_885 dX6_stitches_195 ?_
  refine lv_iconst (v := 5) hx hb dX6_stitches_198 (by decide) ?_
  refine lv_iload_n hx hb dX6_stitches_199 rfl (lv_at hl 1 rfl) ?_
  refine lv_imul hx hb dX6_stitches_200 ?_
  refine lv_iload hx hb dX6_stitches_201 (lv_at hl 2 rfl) ?_
  obtain ⟨gi1, h⟩ := gd_of h
  refine ia_st C hP hD hS (iL (by decide)) (by decide) gi1 dX6_stitches_203 (fun H locs hP hD hS => ?_)
  exact w_X6_stitches_204 C hP hD hS hl h
def b_X6_stitches_119 (x1 : Int32) (x2 : Int32) (M : Mem) : Option (Bool × Mem) := gd (inb ((5 : Int32) * x1) (len 103)) (gd (inb (((5 : Int32) * x1) + (1 : Int32)) (len 103)) ((f_X6_thatWay (AI M 103 ((5 : Int32) * x1).toNatClampNeg) (AI M 103 (((5 : Int32) * x1) + (1 : Int32)).toNatClampNeg) M).bind fun r137 => (if r137 = (-1 : Int32) then some (false, M) else (f_X6_isWet r137 M).bind fun r153 => (if r153 = true then (if x2 = (4 : Int32) then b_X6_stitches_194 x1 r137 M else gd (inb (((5 : Int32) * x1) + (3 : Int32)) (len 103)) ((f_X6_within ((AI M 103 (((5 : Int32) * x1) + (3 : Int32)).toNatClampNeg) + (1 : Int32)) (0 : Int32) (99 : Int32) M).bind fun r188 => gd (inb (((5 : Int32) * x1) + (3 : Int32)) (len 103)) (some (false, (sAI M 103 (((5 : Int32) * x1) + (3 : Int32)).toNatClampNeg r188))))) else b_X6_stitches_194 x1 r137 M))))
set_option maxHeartbeats 4000000 in
set_option maxRecDepth 100000 in
theorem w_X6_stitches_119 (C : CX p s m args meth c cX6_stitches 5 (some .boolean) RX6 D cy ad zz 100 21 A) {M : Mem} {x1 : Int32} {rr : Bool} {M' : Mem} {x2 : Int32} {H : Heap} {locs : List Loc} (hP : va_P D vwCl (pool cy ad 100 21 M) H) (hD : va_D A (pool cy ad 100 21 M)) (hS : va_S A s.heap H locs) {ls : Array Slot} (hl : lv_has ls 5 [(0, .ref (ad 100)), (1, .int x1), (2, .int x2)]) (h : b_X6_stitches_119 x1 x2 M = some (rr, M')) : W p l e ({ frames := 1, cells := 0, slots := 0, locals := 22 } : Room) s m args below meth c H locs 0 0 (MQ below (va_Qi (fun (x : Int32) (_ : Unit) => x = b2i rr) (fun _ t => PA D cy ad 100 21 A M' t) A) args s 0 0 A) (F0 m 119 ls []) := by
  obtain ⟨hx, hb, hml, hown, hts, hr, hlk, hK, hN, hA, hX⟩ := id C
  unfold b_X6_stitches_119 at h
  refine lv_aload_n hx hb dX6_stitches_119 rfl (lv_at hl 0 rfl) ?_
  refine gf_6_3 C hP (iL (by decide)) (by decide) wd_885 dX6_stitches_120 ?_
  refine lv_iconst (v := 5) hx hb dX6_stitches_123 (by decide) ?_
  refine lv_iload_n hx hb dX6_stitches_124 rfl (lv_at hl 1 rfl) ?_
  refine lv_imul hx hb dX6_stitches_125 ?_
  obtain ⟨gi1, h⟩ := gd_of h
  refine ia_ld C hP (iL (by decide)) (by decide) gi1 dX6_stitches_126 ?_
  refine lv_aload_n hx hb dX6_stitches_127 rfl (lv_at hl 0 rfl) ?_
  refine gf_6_3 C hP (iL (by decide)) (by decide) wd_885 dX6_stitches_128 ?_
  refine lv_iconst (v := 5) hx hb dX6_stitches_131 (by decide) ?_
  refine lv_iload_n hx hb dX6_stitches_132 rfl (lv_at hl 1 rfl) ?_
  refine lv_imul hx hb dX6_stitches_133 ?_
  refine lv_iconst (v := 1) hx hb dX6_stitches_134 (by decide) ?_
  refine lv_iadd hx hb dX6_stitches_135 ?_
  obtain ⟨gi2, h⟩ := gd_of h
  refine ia_ld C hP (iL (by decide)) (by decide) gi2 dX6_stitches_136 ?_
  obtain ⟨r137, g137, h⟩ := bd_of h
  refine call_iS (As := [.int (AI M 103 ((5 : Int32) * x1).toNatClampNeg), .int (AI M 103 (((5 : Int32) * x1) + (1 : Int32)).toNatClampNeg)]) (rest := []) C hP hD hS (c_X6_thatWay g137) (gS wd_1096 wd_1097 wd_75 wd_1098) es_X6_thatWay ⟨rfl, rfl⟩ ⟨Nat.le_of_ble_eq_true rfl, Nat.le_of_ble_eq_true rfl⟩ hl.1 rfl (Nat.le_of_ble_eq_true rfl) dX6_stitches_137 (fun H locs hP hD hS => ?_)
  refine lv_istore (lv' := [(4, .int r137), (0, .ref (ad 100)), (1, .int x1), (2, .int x2)]) hx hb dX6_stitches_140 hl (by decide) rfl (fun ls hl => ?_)
  refine lv_iload hx hb dX6_stitches_142 (lv_at hl 0 rfl) ?_
  refine lv_iconst (v := -1) hx hb dX6_stitches_144 (by decide) ?_
  refine lv_icmp_ne (tgt := 150) hx hb dX6_stitches_145 (by decide) (fun c145 => ?_) (fun c145 => ?_)
  · replace h := it_f c145 h
    refine lv_aload_n hx hb dX6_stitches_150 rfl (lv_at hl 1 rfl) ?_
    refine lv_iload hx hb dX6_stitches_151 (lv_at hl 0 rfl) ?_
    obtain ⟨r153, g153, h⟩ := bd_of h
    refine call_iV (As := [.int r137]) (rest := []) C hP hD hS (c_X6_isWet g153) (iL (by decide)) ⟨6, _, _, ent_6 (by decide), rfl, rfl⟩ (gV wd_1013 wd_1015 wd_38 wd_75 wd_1016) ev_X6_isWet ⟨rfl, rfl⟩ ⟨Nat.le_of_ble_eq_true rfl, Nat.le_of_ble_eq_true rfl⟩ hl.1 rfl (Nat.le_of_ble_eq_true rfl) dX6_stitches_153 (fun H locs hP hD hS => ?_)
    refine lv_if_eq (tgt := 194) hx hb dX6_stitches_156 (by decide) (fun c156 => ?_) (fun c156 => ?_)
    · replace h := it_f (b2i_n c156) h
      exact w_X6_stitches_194 C hP hD hS (lv_sub hl [1, 2, 0] rfl) h
    · replace h := it_t (b2i_1 c156) h
      refine lv_iload_n hx hb dX6_stitches_159 rfl (lv_at hl 3 rfl) ?_
      refine lv_iconst (v := 4) hx hb dX6_stitches_160 (by decide) ?_
      refine lv_icmp_eq (tgt := 194) hx hb dX6_stitches_161 (by decide) (fun c161 => ?_) (fun c161 => ?_)
      · replace h := it_t c161 h
        exact w_X6_stitches_194 C hP hD hS (lv_sub hl [1, 2, 0] rfl) h
      · replace h := it_f c161 h
        refine lv_aload_n hx hb dX6_stitches_164 rfl (lv_at hl 1 rfl) ?_
        refine gf_6_3 C hP (iL (by decide)) (by decide) wd_885 dX6_stitches_165 ?_
        refine lv_iconst (v := 5) hx hb dX6_stitches_168 (by decide) ?_
        refine lv_iload_n hx hb dX6_stitches_169 rfl (lv_at hl 2 rfl) ?_
        refine lv_imul hx hb dX6_stitches_170 ?_
        refine lv_iconst (v := 3) hx hb dX6_stitches_171 (by decide) ?_
        refine lv_iadd hx hb dX6_stitches_172 ?_
        refine lv_aload_n hx hb dX6_stitches_173 rfl (lv_at hl 1 rfl) ?_
        refine gf_6_3 C hP (iL (by decide)) (by decide) wd_885 dX6_stitches_174 ?_
        refine lv_iconst (v := 5) hx hb dX6_stitches_177 (by decide) ?_
        refine lv_iload_n hx hb dX6_stitches_178 rfl (lv_at hl 2 rfl) ?_
        refine lv_imul hx hb dX6_stitches_179 ?_
        refine lv_iconst (v := 3) hx hb dX6_stitches_180 (by decide) ?_
        refine lv_iadd hx hb dX6_stitches_181 ?_
        obtain ⟨gi3, h⟩ := gd_of h
        refine ia_ld C hP (iL (by decide)) (by decide) gi3 dX6_stitches_182 ?_
        refine lv_iconst (v := 1) hx hb dX6_stitches_183 (by decide) ?_
        refine lv_iadd hx hb dX6_stitches_184 ?_
        refine lv_iconst (v := 0) hx hb dX6_stitches_185 (by decide) ?_
        refine lv_bipush (v := 99) hx hb dX6_stitches_186 (by decide) ?_
        obtain ⟨r188, g188, h⟩ := bd_of h
        refine call_iS (As := [.int ((AI M 103 (((5 : Int32) * x1) + (3 : Int32)).toNatClampNeg) + (1 : Int32)), .int (0 : Int32), .int (99 : Int32)]) (rest := [.int (((5 : Int32) * x1) + (3 : Int32)), .ref (ad 103)]) C hP hD hS (c_X6_within g188) (gS wd_1049 wd_1050 wd_75 wd_1051) es_X6_within ⟨rfl, rfl⟩ ⟨Nat.le_of_ble_eq_true rfl, Nat.le_of_ble_eq_true rfl⟩ hl.1 rfl (Nat.le_of_ble_eq_true rfl) dX6_stitches_188 (fun H locs hP hD hS => ?_)
        obtain ⟨gi4, h⟩ := gd_of h
        refine ia_st C hP hD hS (iL (by decide)) (by decide) gi4 dX6_stitches_191 (fun H locs hP hD hS => ?_)
        refine lv_iconst (v := 0) hx hb dX6_stitches_192 (by decide) ?_
        exact rt_z (r := false) C hP hD hS dX6_stitches_193 (rw_end h)
  · replace h := it_t c145 h
    refine lv_iconst (v := 0) hx hb dX6_stitches_148 (by decide) ?_
    exact rt_z (r := false) C hP hD hS dX6_stitches_149 (rw_end h)
def b_X6_stitches_94 (x1 : Int32) (x2 : Int32) (t0 : Int32) (M : Mem) : Option (Bool × Mem) := gd (inb (((5 : Int32) * x1) + (1 : Int32)) (len 103)) (gd (inb (((5 : Int32) * x1) + (1 : Int32)) (len 103)) (b_X6_stitches_119 x1 x2 (sAI M 103 (((5 : Int32) * x1) + (1 : Int32)).toNatClampNeg (((AI M 103 (((5 : Int32) * x1) + (1 : Int32)).toNatClampNeg) + t0) - ((AI M 103 (((5 : Int32) * x1) + (1 : Int32)).toNatClampNeg) + t0) / (4 : Int32) * (4 : Int32)))))
set_option maxHeartbeats 4000000 in
set_option maxRecDepth 100000 in
theorem w_X6_stitches_94 (C : CX p s m args meth c cX6_stitches 5 (some .boolean) RX6 D cy ad zz 100 21 A) {M : Mem} {x1 : Int32} {rr : Bool} {M' : Mem} {x2 : Int32} {t0 : Int32} {H : Heap} {locs : List Loc} (hP : va_P D vwCl (pool cy ad 100 21 M) H) (hD : va_D A (pool cy ad 100 21 M)) (hS : va_S A s.heap H locs) {ls : Array Slot} (hl : lv_has ls 5 [(0, .ref (ad 100)), (1, .int x1), (2, .int x2)]) (h : b_X6_stitches_94 x1 x2 t0 M = some (rr, M')) : W p l e ({ frames := 1, cells := 0, slots := 0, locals := 22 } : Room) s m args below meth c H locs 0 0 (MQ below (va_Qi (fun (x : Int32) (_ : Unit) => x = b2i rr) (fun _ t => PA D cy ad 100 21 A M' t) A) args s 0 0 A) (F0 m 94 ls [.int t0]) := by
  obtain ⟨hx, hb, hml, hown, hts, hr, hlk, hK, hN, hA, hX⟩ := id C
  unfold b_X6_stitches_94 at h
  refine lv_istore_n (lv' := [(3, .int t0), (0, .ref (ad 100)), (1, .int x1), (2, .int x2)]) hx hb dX6_stitches_94 rfl hl (by decide) rfl (fun ls hl => ?_)
  refine lv_aload_n hx hb dX6_stitches_95 rfl (lv_at hl 1 rfl) ?_
  refine gf_6_3 C hP (iL (by decide)) (by decide) wd_885 dX6_stitches_96 ?_
  refine lv_iconst (v := 5) hx hb dX6_stitches_99 (by decide) ?_
  refine lv_iload_n hx hb dX6_stitches_100 rfl (lv_at hl 2 rfl) ?_
  refine lv_imul hx hb dX6_stitches_101 ?_
  refine lv_iconst (v := 1) hx hb dX6_stitches_102 (by decide) ?_
  refine lv_iadd hx hb dX6_stitches_103 ?_
  refine lv_aload_n hx hb dX6_stitches_104 rfl (lv_at hl 1 rfl) ?_
  refine gf_6_3 C hP (iL (by decide)) (by decide) wd_885 dX6_stitches_105 ?_
  refine lv_iconst (v := 5) hx hb dX6_stitches_108 (by decide) ?_
  refine lv_iload_n hx hb dX6_stitches_109 rfl (lv_at hl 2 rfl) ?_
  refine lv_imul hx hb dX6_stitches_110 ?_
  refine lv_iconst (v := 1) hx hb dX6_stitches_111 (by decide) ?_
  refine lv_iadd hx hb dX6_stitches_112 ?_
  obtain ⟨gi1, h⟩ := gd_of h
  refine ia_ld C hP (iL (by decide)) (by decide) gi1 dX6_stitches_113 ?_
  refine lv_iload_n hx hb dX6_stitches_114 rfl (lv_at hl 0 rfl) ?_
  refine lv_iadd hx hb dX6_stitches_115 ?_
  refine lv_iconst (v := 4) hx hb dX6_stitches_116 (by decide) ?_
  refine lv_irem hx hb dX6_stitches_117 (by decide) ?_
  obtain ⟨gi2, h⟩ := gd_of h
  refine ia_st C hP hD hS (iL (by decide)) (by decide) gi2 dX6_stitches_118 (fun H locs hP hD hS => ?_)
  exact w_X6_stitches_119 C hP hD hS (lv_sub hl [1, 2, 3] rfl) h
def b_X6_stitches_68 (x1 : Int32) (x2 : Int32) (M : Mem) : Option (Bool × Mem) := (if x2 = (3 : Int32) then some (false, M) else (if x2 = (1 : Int32) then b_X6_stitches_94 x1 x2 (3 : Int32) M else (if x2 = (2 : Int32) then b_X6_stitches_94 x1 x2 (1 : Int32) M else b_X6_stitches_94 x1 x2 (0 : Int32) M)))
set_option maxHeartbeats 4000000 in
set_option maxRecDepth 100000 in
theorem w_X6_stitches_68 (C : CX p s m args meth c cX6_stitches 5 (some .boolean) RX6 D cy ad zz 100 21 A) {M : Mem} {x1 : Int32} {rr : Bool} {M' : Mem} {x2 : Int32} {H : Heap} {locs : List Loc} (hP : va_P D vwCl (pool cy ad 100 21 M) H) (hD : va_D A (pool cy ad 100 21 M)) (hS : va_S A s.heap H locs) {ls : Array Slot} (hl : lv_has ls 5 [(0, .ref (ad 100)), (1, .int x1), (2, .int x2)]) (h : b_X6_stitches_68 x1 x2 M = some (rr, M')) : W p l e ({ frames := 1, cells := 0, slots := 0, locals := 22 } : Room) s m args below meth c H locs 0 0 (MQ below (va_Qi (fun (x : Int32) (_ : Unit) => x = b2i rr) (fun _ t => PA D cy ad 100 21 A M' t) A) args s 0 0 A) (F0 m 68 ls []) := by
  obtain ⟨hx, hb, hml, hown, hts, hr, hlk, hK, hN, hA, hX⟩ := id C
  unfold b_X6_stitches_68 at h
  refine lv_iload_n hx hb dX6_stitches_68 rfl (lv_at hl 2 rfl) ?_
  refine lv_iconst (v := 3) hx hb dX6_stitches_69 (by decide) ?_
  refine lv_icmp_ne (tgt := 75) hx hb dX6_stitches_70 (by decide) (fun c70 => ?_) (fun c70 => ?_)
  · replace h := it_f c70 h
    refine lv_iload_n hx hb dX6_stitches_75 rfl (lv_at hl 2 rfl) ?_
    refine lv_iconst (v := 1) hx hb dX6_stitches_76 (by decide) ?_
    refine lv_icmp_ne (tgt := 84) hx hb dX6_stitches_77 (by decide) (fun c77 => ?_) (fun c77 => ?_)
    · replace h := it_f c77 h
      refine lv_iload_n hx hb dX6_stitches_84 rfl (lv_at hl 2 rfl) ?_
      refine lv_iconst (v := 2) hx hb dX6_stitches_85 (by decide) ?_
      refine lv_icmp_ne (tgt := 93) hx hb dX6_stitches_86 (by decide) (fun c86 => ?_) (fun c86 => ?_)
      · replace h := it_f c86 h
        refine lv_iconst (v := 0) hx hb dX6_stitches_93 (by decide) ?_
        exact w_X6_stitches_94 C hP hD hS hl h
      · replace h := it_t c86 h
        refine lv_iconst (v := 1) hx hb dX6_stitches_89 (by decide) ?_
        refine lv_goto (tgt := 94) hx hb dX6_stitches_90 (by decide) ?_
        exact w_X6_stitches_94 C hP hD hS hl h
    · replace h := it_t c77 h
      refine lv_iconst (v := 3) hx hb dX6_stitches_80 (by decide) ?_
      refine lv_goto (tgt := 94) hx hb dX6_stitches_81 (by decide) ?_
      exact w_X6_stitches_94 C hP hD hS hl h
  · replace h := it_t c70 h
    refine lv_iconst (v := 0) hx hb dX6_stitches_73 (by decide) ?_
    exact rt_z (r := false) C hP hD hS dX6_stitches_74 (rw_end h)
def b_X6_stitches_67 (x1 : Int32) (x2 : Int32) (t1 : Int32) (t2 : Int32) (M : Mem) : Option (Bool × Mem) := gd (inb t1 (len 103)) (b_X6_stitches_68 x1 x2 (sAI M 103 t1.toNatClampNeg t2))
set_option maxHeartbeats 4000000 in
set_option maxRecDepth 100000 in
theorem w_X6_stitches_67 (C : CX p s m args meth c cX6_stitches 5 (some .boolean) RX6 D cy ad zz 100 21 A) {M : Mem} {x1 : Int32} {rr : Bool} {M' : Mem} {x2 : Int32} {t1 : Int32} {t2 : Int32} {H : Heap} {locs : List Loc} (hP : va_P D vwCl (pool cy ad 100 21 M) H) (hD : va_D A (pool cy ad 100 21 M)) (hS : va_S A s.heap H locs) {ls : Array Slot} (hl : lv_has ls 5 [(0, .ref (ad 100)), (1, .int x1), (2, .int x2)]) (h : b_X6_stitches_67 x1 x2 t1 t2 M = some (rr, M')) : W p l e ({ frames := 1, cells := 0, slots := 0, locals := 22 } : Room) s m args below meth c H locs 0 0 (MQ below (va_Qi (fun (x : Int32) (_ : Unit) => x = b2i rr) (fun _ t => PA D cy ad 100 21 A M' t) A) args s 0 0 A) (F0 m 67 ls [.int t2, .int t1, .ref (ad 103)]) := by
  obtain ⟨hx, hb, hml, hown, hts, hr, hlk, hK, hN, hA, hX⟩ := id C
  unfold b_X6_stitches_67 at h
  obtain ⟨gi1, h⟩ := gd_of h
  refine ia_st C hP hD hS (iL (by decide)) (by decide) gi1 dX6_stitches_67 (fun H locs hP hD hS => ?_)
  exact w_X6_stitches_68 C hP hD hS hl h
def b_X6_stitches_21 (x1 : Int32) (x2 : Int32) (M : Mem) : Option (Bool × Mem) := gd (inb (((5 : Int32) * x1) + (2 : Int32)) (len 103)) (gd (inb x1 (len 105)) ((if ((AI M 103 (((5 : Int32) * x1) + (2 : Int32)).toNatClampNeg) + (1 : Int32)) = (AI M 105 x1.toNatClampNeg) then b_X6_stitches_67 x1 x2 (((5 : Int32) * x1) + (2 : Int32)) (0 : Int32) M else gd (inb (((5 : Int32) * x1) + (2 : Int32)) (len 103)) (b_X6_stitches_67 x1 x2 (((5 : Int32) * x1) + (2 : Int32)) ((AI M 103 (((5 : Int32) * x1) + (2 : Int32)).toNatClampNeg) + (1 : Int32)) M))))
set_option maxHeartbeats 4000000 in
set_option maxRecDepth 100000 in
theorem w_X6_stitches_21 (C : CX p s m args meth c cX6_stitches 5 (some .boolean) RX6 D cy ad zz 100 21 A) {M : Mem} {x1 : Int32} {rr : Bool} {M' : Mem} {x2 : Int32} {H : Heap} {locs : List Loc} (hP : va_P D vwCl (pool cy ad 100 21 M) H) (hD : va_D A (pool cy ad 100 21 M)) (hS : va_S A s.heap H locs) {ls : Array Slot} (hl : lv_has ls 5 [(0, .ref (ad 100)), (1, .int x1), (2, .int x2)]) (h : b_X6_stitches_21 x1 x2 M = some (rr, M')) : W p l e ({ frames := 1, cells := 0, slots := 0, locals := 22 } : Room) s m args below meth c H locs 0 0 (MQ below (va_Qi (fun (x : Int32) (_ : Unit) => x = b2i rr) (fun _ t => PA D cy ad 100 21 A M' t) A) args s 0 0 A) (F0 m 21 ls []) := by
  obtain ⟨hx, hb, hml, hown, hts, hr, hlk, hK, hN, hA, hX⟩ := id C
  unfold b_X6_stitches_21 at h
  refine lv_aload_n hx hb dX6_stitches_21 rfl (lv_at hl 0 rfl) ?_
  refine gf_6_3 C hP (iL (by decide)) (by decide) wd_885 dX6_stitches_22 ?_
  refine lv_iconst (v := 5) hx hb dX6_stitches_25 (by decide) ?_
  refine lv_iload_n hx hb dX6_stitches_26 rfl (lv_at hl 1 rfl) ?_
  refine lv_imul hx hb dX6_stitches_27 ?_
  refine lv_iconst (v := 2) hx hb dX6_stitches_28 (by decide) ?_
  refine lv_iadd hx hb dX6_stitches_29 ?_
  refine lv_aload_n hx hb dX6_stitches_30 rfl (lv_at hl 0 rfl) ?_
  refine gf_6_3 C hP (iL (by decide)) (by decide) wd_885 dX6_stitches_31 ?_
  refine lv_iconst (v := 5) hx hb dX6_stitches_34 (by decide) ?_
  refine lv_iload_n hx hb dX6_stitches_35 rfl (lv_at hl 1 rfl) ?_
  refine lv_imul hx hb dX6_stitches_36 ?_
  refine lv_iconst (v := 2) hx hb dX6_stitches_37 (by decide) ?_
  refine lv_iadd hx hb dX6_stitches_38 ?_
  obtain ⟨gi1, h⟩ := gd_of h
  refine ia_ld C hP (iL (by decide)) (by decide) gi1 dX6_stitches_39 ?_
  refine lv_iconst (v := 1) hx hb dX6_stitches_40 (by decide) ?_
  refine lv_iadd hx hb dX6_stitches_41 ?_
  refine lv_aload_n hx hb dX6_stitches_42 rfl (lv_at hl 0 rfl) ?_
  refine gf_6_5 C hP (iL (by decide)) (by decide) wd_887 dX6_stitches_43 ?_
  refine lv_iload_n hx hb dX6_stitches_46 rfl (lv_at hl 1 rfl) ?_
  obtain ⟨gi2, h⟩ := gd_of h
  refine ia_ld C hP (iL (by decide)) (by decide) gi2 dX6_stitches_47 ?_
  refine lv_icmp_ne (tgt := 55) hx hb dX6_stitches_48 (by decide) (fun c48 => ?_) (fun c48 => ?_)
  · replace h := it_f c48 h
    refine lv_aload_n hx hb dX6_stitches_55 rfl (lv_at hl 0 rfl) ?_
    refine gf_6_3 C hP (iL (by decide)) (by decide) wd_885 dX6_stitches_56 ?_
    refine lv_iconst (v := 5) hx hb dX6_stitches_59 (by decide) ?_
    refine lv_iload_n hx hb dX6_stitches_60 rfl (lv_at hl 1 rfl) ?_
    refine lv_imul hx hb dX6_stitches_61 ?_
    refine lv_iconst (v := 2) hx hb dX6_stitches_62 (by decide) ?_
    refine lv_iadd hx hb dX6_stitches_63 ?_
    obtain ⟨gi3, h⟩ := gd_of h
    refine ia_ld C hP (iL (by decide)) (by decide) gi3 dX6_stitches_64 ?_
    refine lv_iconst (v := 1) hx hb dX6_stitches_65 (by decide) ?_
    refine lv_iadd hx hb dX6_stitches_66 ?_
    exact w_X6_stitches_67 C hP hD hS hl h
  · replace h := it_t c48 h
    refine lv_iconst (v := 0) hx hb dX6_stitches_51 (by decide) ?_
    refine lv_goto (tgt := 67) hx hb dX6_stitches_52 (by decide) ?_
    exact w_X6_stitches_67 C hP hD hS hl h
def b_X6_stitches_0 (x1 : Int32) (M : Mem) : Option (Bool × Mem) := gd (inb (((5 : Int32) * x1) + (2 : Int32)) (len 103)) (gd (inb (((16 : Int32) * x1) + (AI M 103 (((5 : Int32) * x1) + (2 : Int32)).toNatClampNeg)) (len 104)) (b_X6_stitches_21 x1 (AI M 104 (((16 : Int32) * x1) + (AI M 103 (((5 : Int32) * x1) + (2 : Int32)).toNatClampNeg)).toNatClampNeg) M))
set_option maxHeartbeats 4000000 in
set_option maxRecDepth 100000 in
theorem w_X6_stitches_0 (C : CX p s m args meth c cX6_stitches 5 (some .boolean) RX6 D cy ad zz 100 21 A) {M : Mem} {x1 : Int32} {rr : Bool} {M' : Mem} {H : Heap} {locs : List Loc} (hP : va_P D vwCl (pool cy ad 100 21 M) H) (hD : va_D A (pool cy ad 100 21 M)) (hS : va_S A s.heap H locs) {ls : Array Slot} (hl : lv_has ls 5 [(0, .ref (ad 100)), (1, .int x1)]) (h : b_X6_stitches_0 x1 M = some (rr, M')) : W p l e ({ frames := 1, cells := 0, slots := 0, locals := 22 } : Room) s m args below meth c H locs 0 0 (MQ below (va_Qi (fun (x : Int32) (_ : Unit) => x = b2i rr) (fun _ t => PA D cy ad 100 21 A M' t) A) args s 0 0 A) (F0 m 0 ls []) := by
  obtain ⟨hx, hb, hml, hown, hts, hr, hlk, hK, hN, hA, hX⟩ := id C
  unfold b_X6_stitches_0 at h
  refine lv_aload_n hx hb dX6_stitches_0 rfl (lv_at hl 0 rfl) ?_
  refine gf_6_4 C hP (iL (by decide)) (by decide) wd_886 dX6_stitches_1 ?_
  refine lv_bipush (v := 16) hx hb dX6_stitches_4 (by decide) ?_
  refine lv_iload_n hx hb dX6_stitches_6 rfl (lv_at hl 1 rfl) ?_
  refine lv_imul hx hb dX6_stitches_7 ?_
  refine lv_aload_n hx hb dX6_stitches_8 rfl (lv_at hl 0 rfl) ?_
  refine gf_6_3 C hP (iL (by decide)) (by decide) wd_885 dX6_stitches_9 ?_
  refine lv_iconst (v := 5) hx hb dX6_stitches_12 (by decide) ?_
  refine lv_iload_n hx hb dX6_stitches_13 rfl (lv_at hl 1 rfl) ?_
  refine lv_imul hx hb dX6_stitches_14 ?_
  refine lv_iconst (v := 2) hx hb dX6_stitches_15 (by decide) ?_
  refine lv_iadd hx hb dX6_stitches_16 ?_
  obtain ⟨gi1, h⟩ := gd_of h
  refine ia_ld C hP (iL (by decide)) (by decide) gi1 dX6_stitches_17 ?_
  refine lv_iadd hx hb dX6_stitches_18 ?_
  obtain ⟨gi2, h⟩ := gd_of h
  refine ia_ld C hP (iL (by decide)) (by decide) gi2 dX6_stitches_19 ?_
  refine lv_istore_n (lv' := [(2, .int (AI M 104 (((16 : Int32) * x1) + (AI M 103 (((5 : Int32) * x1) + (2 : Int32)).toNatClampNeg)).toNatClampNeg)), (0, .ref (ad 100)), (1, .int x1)]) hx hb dX6_stitches_20 rfl hl (by decide) rfl (fun ls hl => ?_)
  exact w_X6_stitches_21 C hP hD hS (lv_sub hl [1, 2, 0] rfl) h
def f_X6_stitches (x1 : Int32) (M : Mem) : Option (Bool × Mem) := b_X6_stitches_0 x1 M
theorem c_X6_stitches {l : Launch} {D : va_G} {cy : Nat → ClassId} {ad : Nat → Nat} {zz : (Nat → Nat) × (Nat → Nat)} {x1 : Int32} {M : Mem} {rr : Bool} {M' : Mem} (h : f_X6_stitches x1 M = some (rr, M')) : CTi l D cy ad zz 100 21 yX6_stitches (.code yX6_stitches cX6_stitches 5 (some .boolean) :: tb) ({ frames := 1, cells := 0, slots := 0, locals := 22 } : Room) [.ref (ad 100), .int x1] M (b2i rr) M' := by
  intro sz
  refine CX.of (by decide +kernel) (fun p e s m args below meth c H ls C hP hD hS hl => ?_) (Nat.le_of_ble_eq_true rfl)
  exact w_X6_stitches_0 C hP hD hS hl h
theorem ev_X6_stitches : yX6_stitches.cls = RX6 ∧ yX6_stitches.cls ≠ "java/lang/invoke/MethodHandle" ∧ yX6_stitches.cls ≠ "java/lang/invoke/VarHandle" ∧ (parseMethodDescriptor yX6_stitches.desc).map (fun d => d.parameters.length) = some 1 := by decide +kernel
def b_X6_nightOf_87 (N : Nat) (k2 : Int32 → Mem → Option (Mem)) (x1 : Int32) (M : Mem) : Option (Mem) := k2 (x1 + (1 : Int32)) M
set_option maxHeartbeats 4000000 in
set_option maxRecDepth 100000 in
theorem w_X6_nightOf_87 (C : CX p s m args meth c cX6_nightOf 6 none RX6 D cy ad zz 100 21 A) {N : Nat} {M : Mem} {k2 : Int32 → Mem → Option (Mem)} {M' : Mem} (hk2 : ∀ (x1 : Int32), ∀ (M : Mem), ∀ (H : Heap) (locs : List Loc), va_P D vwCl (pool cy ad 100 21 M) H → va_D A (pool cy ad 100 21 M) → va_S A s.heap H locs → ∀ (ls : Array Slot), lv_has ls 6 [(0, .ref (ad 100)), (1, .int x1)] → k2 x1 M = some M' → W p l e ({ frames := 4, cells := 0, slots := 0, locals := 93 } : Room) s m args below meth c H locs 0 0 (MQ below (va_Qv (fun (_ : Unit) => True) (fun _ t => PA D cy ad 100 21 A M' t) A) args s 0 0 A) (F0 m 2 ls [])) {x1 : Int32} {H : Heap} {locs : List Loc} (hP : va_P D vwCl (pool cy ad 100 21 M) H) (hD : va_D A (pool cy ad 100 21 M)) (hS : va_S A s.heap H locs) {ls : Array Slot} (hl : lv_has ls 6 [(0, .ref (ad 100)), (1, .int x1)]) (h : b_X6_nightOf_87 N k2 x1 M = some M') : W p l e ({ frames := 4, cells := 0, slots := 0, locals := 93 } : Room) s m args below meth c H locs 0 0 (MQ below (va_Qv (fun (_ : Unit) => True) (fun _ t => PA D cy ad 100 21 A M' t) A) args s 0 0 A) (F0 m 87 ls []) := by
  obtain ⟨hx, hb, hml, hown, hts, hr, hlk, hK, hN, hA, hX⟩ := id C
  unfold b_X6_nightOf_87 at h
  refine lv_iinc (v := (x1 + (1 : Int32))) (lv' := [(1, .int (x1 + (1 : Int32))), (0, .ref (ad 100))]) hx hb dX6_nightOf_87 hl (k := 1) rfl rfl (by decide) rfl (fun ls hl => ?_)
  refine lv_goto (tgt := 2) hx hb dX6_nightOf_90 (by decide) ?_
  exact hk2 _ _ _ _ hP hD hS _ (lv_sub hl [1, 0] rfl) h
def b_X6_nightOf_86 (N : Nat) (k2 : Int32 → Mem → Option (Mem)) (x1 : Int32) (t1 : Int32) (t2 : Int32) (M : Mem) : Option (Mem) := gd (inb t1 (len 103)) (b_X6_nightOf_87 N k2 x1 (sAI M 103 t1.toNatClampNeg t2))
set_option maxHeartbeats 4000000 in
set_option maxRecDepth 100000 in
theorem w_X6_nightOf_86 (C : CX p s m args meth c cX6_nightOf 6 none RX6 D cy ad zz 100 21 A) {N : Nat} {M : Mem} {k2 : Int32 → Mem → Option (Mem)} {M' : Mem} (hk2 : ∀ (x1 : Int32), ∀ (M : Mem), ∀ (H : Heap) (locs : List Loc), va_P D vwCl (pool cy ad 100 21 M) H → va_D A (pool cy ad 100 21 M) → va_S A s.heap H locs → ∀ (ls : Array Slot), lv_has ls 6 [(0, .ref (ad 100)), (1, .int x1)] → k2 x1 M = some M' → W p l e ({ frames := 4, cells := 0, slots := 0, locals := 93 } : Room) s m args below meth c H locs 0 0 (MQ below (va_Qv (fun (_ : Unit) => True) (fun _ t => PA D cy ad 100 21 A M' t) A) args s 0 0 A) (F0 m 2 ls [])) {x1 : Int32} {t1 : Int32} {t2 : Int32} {H : Heap} {locs : List Loc} (hP : va_P D vwCl (pool cy ad 100 21 M) H) (hD : va_D A (pool cy ad 100 21 M)) (hS : va_S A s.heap H locs) {ls : Array Slot} (hl : lv_has ls 6 [(0, .ref (ad 100)), (1, .int x1)]) (h : b_X6_nightOf_86 N k2 x1 t1 t2 M = some M') : W p l e ({ frames := 4, cells := 0, slots := 0, locals := 93 } : Room) s m args below meth c H locs 0 0 (MQ below (va_Qv (fun (_ : Unit) => True) (fun _ t => PA D cy ad 100 21 A M' t) A) args s 0 0 A) (F0 m 86 ls [.int t2, .int t1, .ref (ad 103)]) := by
  obtain ⟨hx, hb, hml, hown, hts, hr, hlk, hK, hN, hA, hX⟩ := id C
  unfold b_X6_nightOf_86 at h
  obtain ⟨gi1, h⟩ := gd_of h
  refine ia_st C hP hD hS (iL (by decide)) (by decide) gi1 dX6_nightOf_86 (fun H locs hP hD hS => ?_)
  exact w_X6_nightOf_87 C hk2 hP hD hS hl h
def b_X6_nightOf_66 (N : Nat) (k2 : Int32 → Mem → Option (Mem)) (x1 : Int32) (x5 : Int32) (M : Mem) : Option (Mem) := (if 0 ≤ x5 then b_X6_nightOf_86 N k2 x1 (((5 : Int32) * x1) + (4 : Int32)) x5 M else b_X6_nightOf_86 N k2 x1 (((5 : Int32) * x1) + (4 : Int32)) (0 : Int32) M)
set_option maxHeartbeats 4000000 in
set_option maxRecDepth 100000 in
theorem w_X6_nightOf_66 (C : CX p s m args meth c cX6_nightOf 6 none RX6 D cy ad zz 100 21 A) {N : Nat} {M : Mem} {k2 : Int32 → Mem → Option (Mem)} {M' : Mem} (hk2 : ∀ (x1 : Int32), ∀ (M : Mem), ∀ (H : Heap) (locs : List Loc), va_P D vwCl (pool cy ad 100 21 M) H → va_D A (pool cy ad 100 21 M) → va_S A s.heap H locs → ∀ (ls : Array Slot), lv_has ls 6 [(0, .ref (ad 100)), (1, .int x1)] → k2 x1 M = some M' → W p l e ({ frames := 4, cells := 0, slots := 0, locals := 93 } : Room) s m args below meth c H locs 0 0 (MQ below (va_Qv (fun (_ : Unit) => True) (fun _ t => PA D cy ad 100 21 A M' t) A) args s 0 0 A) (F0 m 2 ls [])) {x1 : Int32} {x5 : Int32} {H : Heap} {locs : List Loc} (hP : va_P D vwCl (pool cy ad 100 21 M) H) (hD : va_D A (pool cy ad 100 21 M)) (hS : va_S A s.heap H locs) {ls : Array Slot} (hl : lv_has ls 6 [(0, .ref (ad 100)), (1, .int x1), (5, .int x5)]) (h : b_X6_nightOf_66 N k2 x1 x5 M = some M') : W p l e ({ frames := 4, cells := 0, slots := 0, locals := 93 } : Room) s m args below meth c H locs 0 0 (MQ below (va_Qv (fun (_ : Unit) => True) (fun _ t => PA D cy ad 100 21 A M' t) A) args s 0 0 A) (F0 m 66 ls []) := by
  obtain ⟨hx, hb, hml, hown, hts, hr, hlk, hK, hN, hA, hX⟩ := id C
  unfold b_X6_nightOf_66 at h
  refine lv_aload_n hx hb dX6_nightOf_66 rfl (lv_at hl 0 rfl) ?_
  refine gf_6_3 C hP (iL (by decide)) (by decide) wd_885 dX6_nightOf_67 ?_
  refine lv_iconst (v := 5) hx hb dX6_nightOf_70 (by decide) ?_
  refine lv_iload_n hx hb dX6_nightOf_71 rfl (lv_at hl 1 rfl) ?_
  refine lv_imul hx hb dX6_nightOf_72 ?_
  refine lv_iconst (v := 4) hx hb dX6_nightOf_73 (by decide) ?_
  refine lv_iadd hx hb dX6_nightOf_74 ?_
  refine lv_iload hx hb dX6_nightOf_75 (lv_at hl 2 rfl) ?_
  refine lv_if_ge (tgt := 84) hx hb dX6_nightOf_77 (by decide) (fun c77 => ?_) (fun c77 => ?_)
  · replace h := it_t c77 h
    refine lv_iload hx hb dX6_nightOf_84 (lv_at hl 2 rfl) ?_
    exact w_X6_nightOf_86 C hk2 hP hD hS (lv_sub hl [0, 1] rfl) h
  · replace h := it_f c77 h
    refine lv_iconst (v := 0) hx hb dX6_nightOf_80 (by decide) ?_
    refine lv_goto (tgt := 86) hx hb dX6_nightOf_81 (by decide) ?_
    exact w_X6_nightOf_86 C hk2 hP hD hS (lv_sub hl [0, 1] rfl) h
def b_X6_nightOf_52 (N : Nat) (k2 : Int32 → Mem → Option (Mem)) (x1 : Int32) (x3 : Int32) (M : Mem) : Option (Mem) := gd (inb (((5 : Int32) * x1) + (4 : Int32)) (len 103)) (b_X6_nightOf_66 N k2 x1 ((AI M 103 (((5 : Int32) * x1) + (4 : Int32)).toNatClampNeg) - x3) M)
set_option maxHeartbeats 4000000 in
set_option maxRecDepth 100000 in
theorem w_X6_nightOf_52 (C : CX p s m args meth c cX6_nightOf 6 none RX6 D cy ad zz 100 21 A) {N : Nat} {M : Mem} {k2 : Int32 → Mem → Option (Mem)} {M' : Mem} (hk2 : ∀ (x1 : Int32), ∀ (M : Mem), ∀ (H : Heap) (locs : List Loc), va_P D vwCl (pool cy ad 100 21 M) H → va_D A (pool cy ad 100 21 M) → va_S A s.heap H locs → ∀ (ls : Array Slot), lv_has ls 6 [(0, .ref (ad 100)), (1, .int x1)] → k2 x1 M = some M' → W p l e ({ frames := 4, cells := 0, slots := 0, locals := 93 } : Room) s m args below meth c H locs 0 0 (MQ below (va_Qv (fun (_ : Unit) => True) (fun _ t => PA D cy ad 100 21 A M' t) A) args s 0 0 A) (F0 m 2 ls [])) {x1 : Int32} {x3 : Int32} {H : Heap} {locs : List Loc} (hP : va_P D vwCl (pool cy ad 100 21 M) H) (hD : va_D A (pool cy ad 100 21 M)) (hS : va_S A s.heap H locs) {ls : Array Slot} (hl : lv_has ls 6 [(0, .ref (ad 100)), (1, .int x1), (3, .int x3)]) (h : b_X6_nightOf_52 N k2 x1 x3 M = some M') : W p l e ({ frames := 4, cells := 0, slots := 0, locals := 93 } : Room) s m args below meth c H locs 0 0 (MQ below (va_Qv (fun (_ : Unit) => True) (fun _ t => PA D cy ad 100 21 A M' t) A) args s 0 0 A) (F0 m 52 ls []) := by
  obtain ⟨hx, hb, hml, hown, hts, hr, hlk, hK, hN, hA, hX⟩ := id C
  unfold b_X6_nightOf_52 at h
  refine lv_aload_n hx hb dX6_nightOf_52 rfl (lv_at hl 0 rfl) ?_
  refine gf_6_3 C hP (iL (by decide)) (by decide) wd_885 dX6_nightOf_53 ?_
  refine lv_iconst (v := 5) hx hb dX6_nightOf_56 (by decide) ?_
  refine lv_iload_n hx hb dX6_nightOf_57 rfl (lv_at hl 1 rfl) ?_
  refine lv_imul hx hb dX6_nightOf_58 ?_
  refine lv_iconst (v := 4) hx hb dX6_nightOf_59 (by decide) ?_
  refine lv_iadd hx hb dX6_nightOf_60 ?_
  obtain ⟨gi1, h⟩ := gd_of h
  refine ia_ld C hP (iL (by decide)) (by decide) gi1 dX6_nightOf_61 ?_
  refine lv_iload_n hx hb dX6_nightOf_62 rfl (lv_at hl 2 rfl) ?_
  refine lv_isub hx hb dX6_nightOf_63 ?_
  refine lv_istore (lv' := [(5, .int ((AI M 103 (((5 : Int32) * x1) + (4 : Int32)).toNatClampNeg) - x3)), (0, .ref (ad 100)), (1, .int x1), (3, .int x3)]) hx hb dX6_nightOf_64 hl (by decide) rfl (fun ls hl => ?_)
  exact w_X6_nightOf_66 C hk2 hP hD hS (lv_sub hl [1, 2, 0] rfl) h
def b_X6_nightOf_28 (N : Nat) (k2 : Int32 → Mem → Option (Mem)) : Nat → Int32 → Int32 → Int32 → Int32 → Int32 → Mem → Option (Mem)
  | 0, _, _, _, _, _, _ => none
  | fu + 1, x1, x2, x3, x4, x5, M => (if x2 ≤ x5 then b_X6_nightOf_52 N k2 x1 x3 M else (if x4 = 0 then b_X6_nightOf_52 N k2 x1 x3 M else bd2 (f_X6_stitches x1 M) fun r41 M41 => b_X6_nightOf_28 N k2 fu x1 x2 x3 (b2i r41) (x5 + (1 : Int32)) M41))
set_option maxHeartbeats 4000000 in
set_option maxRecDepth 100000 in
theorem w_X6_nightOf_28 (C : CX p s m args meth c cX6_nightOf 6 none RX6 D cy ad zz 100 21 A) {N : Nat} {k2 : Int32 → Mem → Option (Mem)} {M' : Mem} (hk2 : ∀ (x1 : Int32), ∀ (M : Mem), ∀ (H : Heap) (locs : List Loc), va_P D vwCl (pool cy ad 100 21 M) H → va_D A (pool cy ad 100 21 M) → va_S A s.heap H locs → ∀ (ls : Array Slot), lv_has ls 6 [(0, .ref (ad 100)), (1, .int x1)] → k2 x1 M = some M' → W p l e ({ frames := 4, cells := 0, slots := 0, locals := 93 } : Room) s m args below meth c H locs 0 0 (MQ below (va_Qv (fun (_ : Unit) => True) (fun _ t => PA D cy ad 100 21 A M' t) A) args s 0 0 A) (F0 m 2 ls []))  : ∀ (fu : Nat), ∀ (x1 : Int32), ∀ (x2 : Int32), ∀ (x3 : Int32), ∀ (x4 : Int32), ∀ (x5 : Int32), ∀ (M : Mem), ∀ (H : Heap) (locs : List Loc), va_P D vwCl (pool cy ad 100 21 M) H → va_D A (pool cy ad 100 21 M) → va_S A s.heap H locs → ∀ (ls : Array Slot), lv_has ls 6 [(0, .ref (ad 100)), (1, .int x1), (2, .int x2), (3, .int x3), (4, .int x4), (5, .int x5)] → b_X6_nightOf_28 N k2 fu x1 x2 x3 x4 x5 M = some M' → W p l e ({ frames := 4, cells := 0, slots := 0, locals := 93 } : Room) s m args below meth c H locs 0 0 (MQ below (va_Qv (fun (_ : Unit) => True) (fun _ t => PA D cy ad 100 21 A M' t) A) args s 0 0 A) (F0 m 28 ls []) := by
  obtain ⟨hx, hb, hml, hown, hts, hr, hlk, hK, hN, hA, hX⟩ := id C
  intro fu
  induction fu with
  | zero =>
    intro x1 x2 x3 x4 x5 M H locs hP hD hS ls hl h
    exact no_some (show none = some _ from h)
  | succ fu ih =>
    intro x1 x2 x3 x4 x5 M H locs hP hD hS ls hl h
    rw [b_X6_nightOf_28] at h
    refine lv_iload hx hb dX6_nightOf_28 (lv_at hl 5 rfl) ?_
    refine lv_iload_n hx hb dX6_nightOf_30 rfl (lv_at hl 2 rfl) ?_
    refine lv_icmp_ge (tgt := 52) hx hb dX6_nightOf_31 (by decide) (fun c31 => ?_) (fun c31 => ?_)
    · replace h := it_t c31 h
      exact w_X6_nightOf_52 C hk2 hP hD hS (lv_sub hl [0, 1, 3] rfl) h
    · replace h := it_f c31 h
      refine lv_iload hx hb dX6_nightOf_34 (lv_at hl 4 rfl) ?_
      refine lv_if_eq (tgt := 52) hx hb dX6_nightOf_36 (by decide) (fun c36 => ?_) (fun c36 => ?_)
      · replace h := it_t c36 h
        exact w_X6_nightOf_52 C hk2 hP hD hS (lv_sub hl [0, 1, 3] rfl) h
      · replace h := it_f c36 h
        refine lv_aload_n hx hb dX6_nightOf_39 rfl (lv_at hl 0 rfl) ?_
        refine lv_iload_n hx hb dX6_nightOf_40 rfl (lv_at hl 1 rfl) ?_
        obtain ⟨r41, M41, g41, h⟩ := bd2_of h
        refine call_iV (As := [.int x1]) (rest := []) C hP hD hS (c_X6_stitches g41) (iL (by decide)) ⟨6, _, _, ent_6 (by decide), rfl, rfl⟩ (gV wd_1092 wd_1094 wd_46 wd_75 wd_1095) ev_X6_stitches ⟨rfl, rfl⟩ ⟨Nat.le_of_ble_eq_true rfl, Nat.le_of_ble_eq_true rfl⟩ hl.1 rfl (Nat.le_of_ble_eq_true rfl) dX6_nightOf_41 (fun H locs hP hD hS => ?_)
        refine lv_istore (lv' := [(4, .int (b2i r41)), (0, .ref (ad 100)), (1, .int x1), (2, .int x2), (3, .int x3), (5, .int x5)]) hx hb dX6_nightOf_44 hl (by decide) rfl (fun ls hl => ?_)
        refine lv_iinc (v := (x5 + (1 : Int32))) (lv' := [(5, .int (x5 + (1 : Int32))), (4, .int (b2i r41)), (0, .ref (ad 100)), (1, .int x1), (2, .int x2), (3, .int x3)]) hx hb dX6_nightOf_46 hl (k := 5) rfl rfl (by decide) rfl (fun ls hl => ?_)
        refine lv_goto (tgt := 28) hx hb dX6_nightOf_49 (by decide) ?_
        exact ih _ _ _ _ _ _ _ _ hP hD hS _ (lv_sub hl [2, 3, 4, 5, 1, 0] rfl) h
def b_X6_nightOf_2 (N : Nat) : Nat → Int32 → Mem → Option (Mem)
  | 0, _, _ => none
  | fu + 1, x1, M => (if (FI M 100 0) ≤ x1 then some (sFI M 100 7 ((FI M 100 7) + (1 : Int32))) else bd2 (f_X6_goesOf N x1 M) fun r12 M12 => bd2 (f_X6_wearsOf N x1 M12) fun r18 M18 => b_X6_nightOf_28 N (b_X6_nightOf_2 N fu) N x1 r12 r18 (1 : Int32) (0 : Int32) M18)
set_option maxHeartbeats 4000000 in
set_option maxRecDepth 100000 in
theorem w_X6_nightOf_2 (C : CX p s m args meth c cX6_nightOf 6 none RX6 D cy ad zz 100 21 A) {N : Nat} {M' : Mem}  : ∀ (fu : Nat), ∀ (x1 : Int32), ∀ (M : Mem), ∀ (H : Heap) (locs : List Loc), va_P D vwCl (pool cy ad 100 21 M) H → va_D A (pool cy ad 100 21 M) → va_S A s.heap H locs → ∀ (ls : Array Slot), lv_has ls 6 [(0, .ref (ad 100)), (1, .int x1)] → b_X6_nightOf_2 N fu x1 M = some M' → W p l e ({ frames := 4, cells := 0, slots := 0, locals := 93 } : Room) s m args below meth c H locs 0 0 (MQ below (va_Qv (fun (_ : Unit) => True) (fun _ t => PA D cy ad 100 21 A M' t) A) args s 0 0 A) (F0 m 2 ls []) := by
  obtain ⟨hx, hb, hml, hown, hts, hr, hlk, hK, hN, hA, hX⟩ := id C
  intro fu
  induction fu with
  | zero =>
    intro x1 M H locs hP hD hS ls hl h
    exact no_some (show none = some _ from h)
  | succ fu ih =>
    intro x1 M H locs hP hD hS ls hl h
    rw [b_X6_nightOf_2] at h
    refine lv_iload_n hx hb dX6_nightOf_2 rfl (lv_at hl 1 rfl) ?_
    refine lv_aload_n hx hb dX6_nightOf_3 rfl (lv_at hl 0 rfl) ?_
    refine gf_6_0 C hP (iL (by decide)) (by decide) wd_882 dX6_nightOf_4 ?_
    refine lv_icmp_ge (tgt := 93) hx hb dX6_nightOf_7 (by decide) (fun c7 => ?_) (fun c7 => ?_)
    · replace h := it_t c7 h
      refine lv_aload_n hx hb dX6_nightOf_93 rfl (lv_at hl 0 rfl) ?_
      refine lv_dup hx hb dX6_nightOf_94 rfl ?_
      refine gf_6_7 C hP (iL (by decide)) (by decide) wd_889 dX6_nightOf_95 ?_
      refine lv_iconst (v := 1) hx hb dX6_nightOf_98 (by decide) ?_
      refine lv_iadd hx hb dX6_nightOf_99 ?_
      refine pf_6_7 C hP hD hS (iL (by decide)) (by decide) wd_889 dX6_nightOf_100 (fun H locs hP hD hS => ?_)
      exact rt_v C hP hD hS dX6_nightOf_103 (Option.some.inj h)
    · replace h := it_f c7 h
      refine lv_aload_n hx hb dX6_nightOf_10 rfl (lv_at hl 0 rfl) ?_
      refine lv_iload_n hx hb dX6_nightOf_11 rfl (lv_at hl 1 rfl) ?_
      obtain ⟨r12, M12, g12, h⟩ := bd2_of h
      refine call_iV (As := [.int x1]) (rest := []) C hP hD hS (c_X6_goesOf g12) (iL (by decide)) ⟨6, _, _, ent_6 (by decide), rfl, rfl⟩ (gV wd_1064 wd_1066 wd_42 wd_75 wd_1067) ev_X6_goesOf ⟨rfl, rfl⟩ ⟨Nat.le_of_ble_eq_true rfl, Nat.le_of_ble_eq_true rfl⟩ hl.1 rfl (Nat.le_of_ble_eq_true rfl) dX6_nightOf_12 (fun H locs hP hD hS => ?_)
      refine lv_istore_n (lv' := [(2, .int r12), (0, .ref (ad 100)), (1, .int x1)]) hx hb dX6_nightOf_15 rfl hl (by decide) rfl (fun ls hl => ?_)
      refine lv_aload_n hx hb dX6_nightOf_16 rfl (lv_at hl 1 rfl) ?_
      refine lv_iload_n hx hb dX6_nightOf_17 rfl (lv_at hl 2 rfl) ?_
      obtain ⟨r18, M18, g18, h⟩ := bd2_of h
      refine call_iV (As := [.int x1]) (rest := []) C hP hD hS (c_X6_wearsOf g18) (iL (by decide)) ⟨6, _, _, ent_6 (by decide), rfl, rfl⟩ (gV wd_1072 wd_1074 wd_44 wd_75 wd_1075) ev_X6_wearsOf ⟨rfl, rfl⟩ ⟨Nat.le_of_ble_eq_true rfl, Nat.le_of_ble_eq_true rfl⟩ hl.1 rfl (Nat.le_of_ble_eq_true rfl) dX6_nightOf_18 (fun H locs hP hD hS => ?_)
      refine lv_istore_n (lv' := [(3, .int r18), (2, .int r12), (0, .ref (ad 100)), (1, .int x1)]) hx hb dX6_nightOf_21 rfl hl (by decide) rfl (fun ls hl => ?_)
      refine lv_iconst (v := 1) hx hb dX6_nightOf_22 (by decide) ?_
      refine lv_istore (lv' := [(4, .int (1 : Int32)), (3, .int r18), (2, .int r12), (0, .ref (ad 100)), (1, .int x1)]) hx hb dX6_nightOf_23 hl (by decide) rfl (fun ls hl => ?_)
      refine lv_iconst (v := 0) hx hb dX6_nightOf_25 (by decide) ?_
      refine lv_istore (lv' := [(5, .int (0 : Int32)), (4, .int (1 : Int32)), (3, .int r18), (2, .int r12), (0, .ref (ad 100)), (1, .int x1)]) hx hb dX6_nightOf_26 hl (by decide) rfl (fun ls hl => ?_)
      exact w_X6_nightOf_28 C ih N _ _ _ _ _ _ _ _ hP hD hS _ (lv_sub hl [4, 5, 3, 2, 1, 0] rfl) h
def b_X6_nightOf_0 (N : Nat) (M : Mem) : Option (Mem) := b_X6_nightOf_2 N N (0 : Int32) M
set_option maxHeartbeats 4000000 in
set_option maxRecDepth 100000 in
theorem w_X6_nightOf_0 (C : CX p s m args meth c cX6_nightOf 6 none RX6 D cy ad zz 100 21 A) {N : Nat} {M : Mem} {M' : Mem} {H : Heap} {locs : List Loc} (hP : va_P D vwCl (pool cy ad 100 21 M) H) (hD : va_D A (pool cy ad 100 21 M)) (hS : va_S A s.heap H locs) {ls : Array Slot} (hl : lv_has ls 6 [(0, .ref (ad 100))]) (h : b_X6_nightOf_0 N M = some M') : W p l e ({ frames := 4, cells := 0, slots := 0, locals := 93 } : Room) s m args below meth c H locs 0 0 (MQ below (va_Qv (fun (_ : Unit) => True) (fun _ t => PA D cy ad 100 21 A M' t) A) args s 0 0 A) (F0 m 0 ls []) := by
  obtain ⟨hx, hb, hml, hown, hts, hr, hlk, hK, hN, hA, hX⟩ := id C
  unfold b_X6_nightOf_0 at h
  refine lv_iconst (v := 0) hx hb dX6_nightOf_0 (by decide) ?_
  refine lv_istore_n (lv' := [(1, .int (0 : Int32)), (0, .ref (ad 100))]) hx hb dX6_nightOf_1 rfl hl (by decide) rfl (fun ls hl => ?_)
  exact w_X6_nightOf_2 C N _ _ _ _ hP hD hS _ (lv_sub hl [1, 0] rfl) h
def f_X6_nightOf (N : Nat) (M : Mem) : Option (Mem) := b_X6_nightOf_0 N M
theorem c_X6_nightOf {l : Launch} {D : va_G} {cy : Nat → ClassId} {ad : Nat → Nat} {zz : (Nat → Nat) × (Nat → Nat)} {N : Nat} {M : Mem} {M' : Mem} (h : f_X6_nightOf N M = some M') : CTv l D cy ad zz 100 21 yX6_nightOf (.code yX6_nightOf cX6_nightOf 6 none :: tb) ({ frames := 4, cells := 0, slots := 0, locals := 93 } : Room) [.ref (ad 100)] M M' := by
  intro sz
  refine CX.of (by decide +kernel) (fun p e s m args below meth c H ls C hP hD hS hl => ?_) (Nat.le_of_ble_eq_true rfl)
  exact w_X6_nightOf_0 C hP hD hS hl h
theorem ev_X6_nightOf : yX6_nightOf.cls = RX6 ∧ yX6_nightOf.cls ≠ "java/lang/invoke/MethodHandle" ∧ yX6_nightOf.cls ≠ "java/lang/invoke/VarHandle" ∧ (parseMethodDescriptor yX6_nightOf.desc).map (fun d => d.parameters.length) = some 0 := by decide +kernel
def b_X6_night_18 (N : Nat) (M : Mem) : Option (Int32 × Mem) := (f_X6_nightOf N M).bind fun M19 => some ((FI M19 100 34), M19)
set_option maxHeartbeats 4000000 in
set_option maxRecDepth 100000 in
theorem w_X6_night_18 (C : CX p s m args meth c cX6_night 1 (some .int) RX6 D cy ad zz 100 21 A) {N : Nat} {M : Mem} {rr : Int32} {M' : Mem} {H : Heap} {locs : List Loc} (hP : va_P D vwCl (pool cy ad 100 21 M) H) (hD : va_D A (pool cy ad 100 21 M)) (hS : va_S A s.heap H locs) {ls : Array Slot} (hl : lv_has ls 1 [(0, .ref (ad 100))]) (h : b_X6_night_18 N M = some (rr, M')) : W p l e ({ frames := 5, cells := 0, slots := 0, locals := 118 } : Room) s m args below meth c H locs 0 0 (MQ below (va_Qi (fun (x : Int32) (_ : Unit) => x = rr) (fun _ t => PA D cy ad 100 21 A M' t) A) args s 0 0 A) (F0 m 18 ls []) := by
  obtain ⟨hx, hb, hml, hown, hts, hr, hlk, hK, hN, hA, hX⟩ := id C
  unfold b_X6_night_18 at h
  refine lv_aload_n hx hb dX6_night_18 rfl (lv_at hl 0 rfl) ?_
  obtain ⟨M19, g19, h⟩ := bd_of h
  refine call_vV (As := []) (rest := []) C hP hD hS (c_X6_nightOf g19) (iL (by decide)) ⟨6, _, _, ent_6 (by decide), rfl, rfl⟩ (gV wd_1088 wd_1090 wd_45 wd_75 wd_1091) ev_X6_nightOf ⟨rfl, rfl⟩ ⟨Nat.le_of_ble_eq_true rfl, Nat.le_of_ble_eq_true rfl⟩ hl.1 rfl (Nat.le_of_ble_eq_true rfl) dX6_night_19 (fun H locs hP hD hS => ?_)
  refine lv_aload_n hx hb dX6_night_22 rfl (lv_at hl 0 rfl) ?_
  refine gf_6_34 C hP (iL (by decide)) (by decide) wd_916 dX6_night_23 ?_
  exact rt_i (r := (FI M19 100 34)) C hP hD hS dX6_night_26 (rw_end h)
def b_X6_night_0 (N : Nat) (M : Mem) : Option (Int32 × Mem) := (if (FI M 100 7) = (999 : Int32) then some ((-3 : Int32), M) else b_X6_night_18 N (sFI M 100 34 (0 : Int32)))
set_option maxHeartbeats 4000000 in
set_option maxRecDepth 100000 in
theorem w_X6_night_0 (C : CX p s m args meth c cX6_night 1 (some .int) RX6 D cy ad zz 100 21 A) {N : Nat} {M : Mem} {rr : Int32} {M' : Mem} {H : Heap} {locs : List Loc} (hP : va_P D vwCl (pool cy ad 100 21 M) H) (hD : va_D A (pool cy ad 100 21 M)) (hS : va_S A s.heap H locs) {ls : Array Slot} (hl : lv_has ls 1 [(0, .ref (ad 100))]) (h : b_X6_night_0 N M = some (rr, M')) : W p l e ({ frames := 5, cells := 0, slots := 0, locals := 118 } : Room) s m args below meth c H locs 0 0 (MQ below (va_Qi (fun (x : Int32) (_ : Unit) => x = rr) (fun _ t => PA D cy ad 100 21 A M' t) A) args s 0 0 A) (F0 m 0 ls []) := by
  obtain ⟨hx, hb, hml, hown, hts, hr, hlk, hK, hN, hA, hX⟩ := id C
  unfold b_X6_night_0 at h
  refine lv_aload_n hx hb dX6_night_0 rfl (lv_at hl 0 rfl) ?_
  refine gf_6_7 C hP (iL (by decide)) (by decide) wd_889 dX6_night_1 ?_
  refine lv_sipush (v := 999) hx hb dX6_night_4 (by decide) ?_
  refine lv_icmp_ne (tgt := 13) hx hb dX6_night_7 (by decide) (fun c7 => ?_) (fun c7 => ?_)
  · replace h := it_f c7 h
    refine lv_aload_n hx hb dX6_night_13 rfl (lv_at hl 0 rfl) ?_
    refine lv_iconst (v := 0) hx hb dX6_night_14 (by decide) ?_
    refine pf_6_34 C hP hD hS (iL (by decide)) (by decide) wd_916 dX6_night_15 (fun H locs hP hD hS => ?_)
    exact w_X6_night_18 C hP hD hS hl h
  · replace h := it_t c7 h
    refine lv_bipush (v := -3) hx hb dX6_night_10 (by decide) ?_
    exact rt_i (r := (-3 : Int32)) C hP hD hS dX6_night_12 (rw_end h)
def f_X6_night (N : Nat) (M : Mem) : Option (Int32 × Mem) := b_X6_night_0 N M
theorem c_X6_night {l : Launch} {D : va_G} {cy : Nat → ClassId} {ad : Nat → Nat} {zz : (Nat → Nat) × (Nat → Nat)} {N : Nat} {M : Mem} {rr : Int32} {M' : Mem} (h : f_X6_night N M = some (rr, M')) : CTi l D cy ad zz 100 21 yX6_night (.code yX6_night cX6_night 1 (some .int) :: tb) ({ frames := 5, cells := 0, slots := 0, locals := 118 } : Room) [.ref (ad 100)] M rr M' := by
  intro sz
  refine CX.of (by decide +kernel) (fun p e s m args below meth c H ls C hP hD hS hl => ?_) (Nat.le_of_ble_eq_true rfl)
  exact w_X6_night_0 C hP hD hS hl h
theorem ev_X6_night : yX6_night.cls = RX6 ∧ yX6_night.cls ≠ "java/lang/invoke/MethodHandle" ∧ yX6_night.cls ≠ "java/lang/invoke/VarHandle" ∧ (parseMethodDescriptor yX6_night.desc).map (fun d => d.parameters.length) = some 0 := by decide +kernel
def b_X6_keeps_20 (N : Nat) (k2 : Int32 → Mem → Option (Mem)) (x1 : Int32) (M : Mem) : Option (Mem) := k2 (x1 + (1 : Int32)) M
set_option maxHeartbeats 4000000 in
set_option maxRecDepth 100000 in
theorem w_X6_keeps_20 (C : CX p s m args meth c cX6_keeps 2 none RX6 D cy ad zz 100 21 A) {N : Nat} {M : Mem} {k2 : Int32 → Mem → Option (Mem)} {M' : Mem} (hk2 : ∀ (x1 : Int32), ∀ (M : Mem), ∀ (H : Heap) (locs : List Loc), va_P D vwCl (pool cy ad 100 21 M) H → va_D A (pool cy ad 100 21 M) → va_S A s.heap H locs → ∀ (ls : Array Slot), lv_has ls 2 [(0, .ref (ad 100)), (1, .int x1)] → k2 x1 M = some M' → W p l e ({ frames := 0, cells := 0, slots := 0, locals := 0 } : Room) s m args below meth c H locs 0 0 (MQ below (va_Qv (fun (_ : Unit) => True) (fun _ t => PA D cy ad 100 21 A M' t) A) args s 0 0 A) (F0 m 2 ls [])) {x1 : Int32} {H : Heap} {locs : List Loc} (hP : va_P D vwCl (pool cy ad 100 21 M) H) (hD : va_D A (pool cy ad 100 21 M)) (hS : va_S A s.heap H locs) {ls : Array Slot} (hl : lv_has ls 2 [(0, .ref (ad 100)), (1, .int x1)]) (h : b_X6_keeps_20 N k2 x1 M = some M') : W p l e ({ frames := 0, cells := 0, slots := 0, locals := 0 } : Room) s m args below meth c H locs 0 0 (MQ below (va_Qv (fun (_ : Unit) => True) (fun _ t => PA D cy ad 100 21 A M' t) A) args s 0 0 A) (F0 m 20 ls []) := by
  obtain ⟨hx, hb, hml, hown, hts, hr, hlk, hK, hN, hA, hX⟩ := id C
  unfold b_X6_keeps_20 at h
  refine lv_iinc (v := (x1 + (1 : Int32))) (lv' := [(1, .int (x1 + (1 : Int32))), (0, .ref (ad 100))]) hx hb dX6_keeps_20 hl (k := 1) rfl rfl (by decide) rfl (fun ls hl => ?_)
  refine lv_goto (tgt := 2) hx hb dX6_keeps_23 (by decide) ?_
  exact hk2 _ _ _ _ hP hD hS _ (lv_sub hl [1, 0] rfl) h
def b_X6_keeps_2 (N : Nat) : Nat → Int32 → Mem → Option (Mem)
  | 0, _, _ => none
  | fu + 1, x1, M => (if (30 : Int32) ≤ x1 then some (sAI M 120 (30 : Int32).toNatClampNeg (FI M 100 7)) else gd (inb x1 (len 103)) (gd (inb x1 (len 120)) (b_X6_keeps_20 N (b_X6_keeps_2 N fu) x1 (sAI M 120 x1.toNatClampNeg (AI M 103 x1.toNatClampNeg)))))
set_option maxHeartbeats 4000000 in
set_option maxRecDepth 100000 in
theorem w_X6_keeps_2 (C : CX p s m args meth c cX6_keeps 2 none RX6 D cy ad zz 100 21 A) {N : Nat} {M' : Mem}  : ∀ (fu : Nat), ∀ (x1 : Int32), ∀ (M : Mem), ∀ (H : Heap) (locs : List Loc), va_P D vwCl (pool cy ad 100 21 M) H → va_D A (pool cy ad 100 21 M) → va_S A s.heap H locs → ∀ (ls : Array Slot), lv_has ls 2 [(0, .ref (ad 100)), (1, .int x1)] → b_X6_keeps_2 N fu x1 M = some M' → W p l e ({ frames := 0, cells := 0, slots := 0, locals := 0 } : Room) s m args below meth c H locs 0 0 (MQ below (va_Qv (fun (_ : Unit) => True) (fun _ t => PA D cy ad 100 21 A M' t) A) args s 0 0 A) (F0 m 2 ls []) := by
  obtain ⟨hx, hb, hml, hown, hts, hr, hlk, hK, hN, hA, hX⟩ := id C
  intro fu
  induction fu with
  | zero =>
    intro x1 M H locs hP hD hS ls hl h
    exact no_some (show none = some _ from h)
  | succ fu ih =>
    intro x1 M H locs hP hD hS ls hl h
    rw [b_X6_keeps_2] at h
    refine lv_iload_n hx hb dX6_keeps_2 rfl (lv_at hl 1 rfl) ?_
    refine lv_bipush (v := 30) hx hb dX6_keeps_3 (by decide) ?_
    refine lv_icmp_ge (tgt := 26) hx hb dX6_keeps_5 (by decide) (fun c5 => ?_) (fun c5 => ?_)
    · replace h := it_t c5 h
      refine lv_aload_n hx hb dX6_keeps_26 rfl (lv_at hl 0 rfl) ?_
      refine gf_6_35 C hP (iL (by decide)) (by decide) wd_917 dX6_keeps_27 ?_
      refine lv_bipush (v := 30) hx hb dX6_keeps_30 (by decide) ?_
      refine lv_aload_n hx hb dX6_keeps_32 rfl (lv_at hl 0 rfl) ?_
      refine gf_6_7 C hP (iL (by decide)) (by decide) wd_889 dX6_keeps_33 ?_
      refine ia_st C hP hD hS (iL (by decide)) (by decide) (by decide) dX6_keeps_36 (fun H locs hP hD hS => ?_)
      exact rt_v C hP hD hS dX6_keeps_37 (Option.some.inj h)
    · replace h := it_f c5 h
      refine lv_aload_n hx hb dX6_keeps_8 rfl (lv_at hl 0 rfl) ?_
      refine gf_6_35 C hP (iL (by decide)) (by decide) wd_917 dX6_keeps_9 ?_
      refine lv_iload_n hx hb dX6_keeps_12 rfl (lv_at hl 1 rfl) ?_
      refine lv_aload_n hx hb dX6_keeps_13 rfl (lv_at hl 0 rfl) ?_
      refine gf_6_3 C hP (iL (by decide)) (by decide) wd_885 dX6_keeps_14 ?_
      refine lv_iload_n hx hb dX6_keeps_17 rfl (lv_at hl 1 rfl) ?_
      obtain ⟨gi1, h⟩ := gd_of h
      refine ia_ld C hP (iL (by decide)) (by decide) gi1 dX6_keeps_18 ?_
      obtain ⟨gi2, h⟩ := gd_of h
      refine ia_st C hP hD hS (iL (by decide)) (by decide) gi2 dX6_keeps_19 (fun H locs hP hD hS => ?_)
      exact w_X6_keeps_20 C ih hP hD hS hl h
def b_X6_keeps_0 (N : Nat) (M : Mem) : Option (Mem) := b_X6_keeps_2 N N (0 : Int32) M
set_option maxHeartbeats 4000000 in
set_option maxRecDepth 100000 in
theorem w_X6_keeps_0 (C : CX p s m args meth c cX6_keeps 2 none RX6 D cy ad zz 100 21 A) {N : Nat} {M : Mem} {M' : Mem} {H : Heap} {locs : List Loc} (hP : va_P D vwCl (pool cy ad 100 21 M) H) (hD : va_D A (pool cy ad 100 21 M)) (hS : va_S A s.heap H locs) {ls : Array Slot} (hl : lv_has ls 2 [(0, .ref (ad 100))]) (h : b_X6_keeps_0 N M = some M') : W p l e ({ frames := 0, cells := 0, slots := 0, locals := 0 } : Room) s m args below meth c H locs 0 0 (MQ below (va_Qv (fun (_ : Unit) => True) (fun _ t => PA D cy ad 100 21 A M' t) A) args s 0 0 A) (F0 m 0 ls []) := by
  obtain ⟨hx, hb, hml, hown, hts, hr, hlk, hK, hN, hA, hX⟩ := id C
  unfold b_X6_keeps_0 at h
  refine lv_iconst (v := 0) hx hb dX6_keeps_0 (by decide) ?_
  refine lv_istore_n (lv' := [(1, .int (0 : Int32)), (0, .ref (ad 100))]) hx hb dX6_keeps_1 rfl hl (by decide) rfl (fun ls hl => ?_)
  exact w_X6_keeps_2 C N _ _ _ _ hP hD hS _ (lv_sub hl [1, 0] rfl) h
def f_X6_keeps (N : Nat) (M : Mem) : Option (Mem) := b_X6_keeps_0 N M
theorem c_X6_keeps {l : Launch} {D : va_G} {cy : Nat → ClassId} {ad : Nat → Nat} {zz : (Nat → Nat) × (Nat → Nat)} {N : Nat} {M : Mem} {M' : Mem} (h : f_X6_keeps N M = some M') : CTv l D cy ad zz 100 21 yX6_keeps (.code yX6_keeps cX6_keeps 2 none :: tb) ({ frames := 0, cells := 0, slots := 0, locals := 0 } : Room) [.ref (ad 100)] M M' := by
  intro sz
  refine CX.of (by decide +kernel) (fun p e s m args below meth c H ls C hP hD hS hl => ?_) (Nat.le_of_ble_eq_true rfl)
  exact w_X6_keeps_0 C hP hD hS hl h
theorem ev_X6_keeps : yX6_keeps.cls = RX6 ∧ yX6_keeps.cls ≠ "java/lang/invoke/MethodHandle" ∧ yX6_keeps.cls ≠ "java/lang/invoke/VarHandle" ∧ (parseMethodDescriptor yX6_keeps.desc).map (fun d => d.parameters.length) = some 0 := by decide +kernel
def b_X6_lays_20 (N : Nat) (k2 : Int32 → Mem → Option (Mem)) (x1 : Int32) (M : Mem) : Option (Mem) := k2 (x1 + (1 : Int32)) M
set_option maxHeartbeats 4000000 in
set_option maxRecDepth 100000 in
theorem w_X6_lays_20 (C : CX p s m args meth c cX6_lays 2 none RX6 D cy ad zz 100 21 A) {N : Nat} {M : Mem} {k2 : Int32 → Mem → Option (Mem)} {M' : Mem} (hk2 : ∀ (x1 : Int32), ∀ (M : Mem), ∀ (H : Heap) (locs : List Loc), va_P D vwCl (pool cy ad 100 21 M) H → va_D A (pool cy ad 100 21 M) → va_S A s.heap H locs → ∀ (ls : Array Slot), lv_has ls 2 [(0, .ref (ad 100)), (1, .int x1)] → k2 x1 M = some M' → W p l e ({ frames := 0, cells := 0, slots := 0, locals := 0 } : Room) s m args below meth c H locs 0 0 (MQ below (va_Qv (fun (_ : Unit) => True) (fun _ t => PA D cy ad 100 21 A M' t) A) args s 0 0 A) (F0 m 2 ls [])) {x1 : Int32} {H : Heap} {locs : List Loc} (hP : va_P D vwCl (pool cy ad 100 21 M) H) (hD : va_D A (pool cy ad 100 21 M)) (hS : va_S A s.heap H locs) {ls : Array Slot} (hl : lv_has ls 2 [(0, .ref (ad 100)), (1, .int x1)]) (h : b_X6_lays_20 N k2 x1 M = some M') : W p l e ({ frames := 0, cells := 0, slots := 0, locals := 0 } : Room) s m args below meth c H locs 0 0 (MQ below (va_Qv (fun (_ : Unit) => True) (fun _ t => PA D cy ad 100 21 A M' t) A) args s 0 0 A) (F0 m 20 ls []) := by
  obtain ⟨hx, hb, hml, hown, hts, hr, hlk, hK, hN, hA, hX⟩ := id C
  unfold b_X6_lays_20 at h
  refine lv_iinc (v := (x1 + (1 : Int32))) (lv' := [(1, .int (x1 + (1 : Int32))), (0, .ref (ad 100))]) hx hb dX6_lays_20 hl (k := 1) rfl rfl (by decide) rfl (fun ls hl => ?_)
  refine lv_goto (tgt := 2) hx hb dX6_lays_23 (by decide) ?_
  exact hk2 _ _ _ _ hP hD hS _ (lv_sub hl [1, 0] rfl) h
def b_X6_lays_2 (N : Nat) : Nat → Int32 → Mem → Option (Mem)
  | 0, _, _ => none
  | fu + 1, x1, M => (if (30 : Int32) ≤ x1 then some (sFI M 100 7 (AI M 120 (30 : Int32).toNatClampNeg)) else gd (inb x1 (len 120)) (gd (inb x1 (len 103)) (b_X6_lays_20 N (b_X6_lays_2 N fu) x1 (sAI M 103 x1.toNatClampNeg (AI M 120 x1.toNatClampNeg)))))
set_option maxHeartbeats 4000000 in
set_option maxRecDepth 100000 in
theorem w_X6_lays_2 (C : CX p s m args meth c cX6_lays 2 none RX6 D cy ad zz 100 21 A) {N : Nat} {M' : Mem}  : ∀ (fu : Nat), ∀ (x1 : Int32), ∀ (M : Mem), ∀ (H : Heap) (locs : List Loc), va_P D vwCl (pool cy ad 100 21 M) H → va_D A (pool cy ad 100 21 M) → va_S A s.heap H locs → ∀ (ls : Array Slot), lv_has ls 2 [(0, .ref (ad 100)), (1, .int x1)] → b_X6_lays_2 N fu x1 M = some M' → W p l e ({ frames := 0, cells := 0, slots := 0, locals := 0 } : Room) s m args below meth c H locs 0 0 (MQ below (va_Qv (fun (_ : Unit) => True) (fun _ t => PA D cy ad 100 21 A M' t) A) args s 0 0 A) (F0 m 2 ls []) := by
  obtain ⟨hx, hb, hml, hown, hts, hr, hlk, hK, hN, hA, hX⟩ := id C
  intro fu
  induction fu with
  | zero =>
    intro x1 M H locs hP hD hS ls hl h
    exact no_some (show none = some _ from h)
  | succ fu ih =>
    intro x1 M H locs hP hD hS ls hl h
    rw [b_X6_lays_2] at h
    refine lv_iload_n hx hb dX6_lays_2 rfl (lv_at hl 1 rfl) ?_
    refine lv_bipush (v := 30) hx hb dX6_lays_3 (by decide) ?_
    refine lv_icmp_ge (tgt := 26) hx hb dX6_lays_5 (by decide) (fun c5 => ?_) (fun c5 => ?_)
    · replace h := it_t c5 h
      refine lv_aload_n hx hb dX6_lays_26 rfl (lv_at hl 0 rfl) ?_
      refine lv_aload_n hx hb dX6_lays_27 rfl (lv_at hl 0 rfl) ?_
      refine gf_6_35 C hP (iL (by decide)) (by decide) wd_917 dX6_lays_28 ?_
      refine lv_bipush (v := 30) hx hb dX6_lays_31 (by decide) ?_
      refine ia_ld C hP (iL (by decide)) (by decide) (by decide) dX6_lays_33 ?_
      refine pf_6_7 C hP hD hS (iL (by decide)) (by decide) wd_889 dX6_lays_34 (fun H locs hP hD hS => ?_)
      exact rt_v C hP hD hS dX6_lays_37 (Option.some.inj h)
    · replace h := it_f c5 h
      refine lv_aload_n hx hb dX6_lays_8 rfl (lv_at hl 0 rfl) ?_
      refine gf_6_3 C hP (iL (by decide)) (by decide) wd_885 dX6_lays_9 ?_
      refine lv_iload_n hx hb dX6_lays_12 rfl (lv_at hl 1 rfl) ?_
      refine lv_aload_n hx hb dX6_lays_13 rfl (lv_at hl 0 rfl) ?_
      refine gf_6_35 C hP (iL (by decide)) (by decide) wd_917 dX6_lays_14 ?_
      refine lv_iload_n hx hb dX6_lays_17 rfl (lv_at hl 1 rfl) ?_
      obtain ⟨gi1, h⟩ := gd_of h
      refine ia_ld C hP (iL (by decide)) (by decide) gi1 dX6_lays_18 ?_
      obtain ⟨gi2, h⟩ := gd_of h
      refine ia_st C hP hD hS (iL (by decide)) (by decide) gi2 dX6_lays_19 (fun H locs hP hD hS => ?_)
      exact w_X6_lays_20 C ih hP hD hS hl h
def b_X6_lays_0 (N : Nat) (M : Mem) : Option (Mem) := b_X6_lays_2 N N (0 : Int32) M
set_option maxHeartbeats 4000000 in
set_option maxRecDepth 100000 in
theorem w_X6_lays_0 (C : CX p s m args meth c cX6_lays 2 none RX6 D cy ad zz 100 21 A) {N : Nat} {M : Mem} {M' : Mem} {H : Heap} {locs : List Loc} (hP : va_P D vwCl (pool cy ad 100 21 M) H) (hD : va_D A (pool cy ad 100 21 M)) (hS : va_S A s.heap H locs) {ls : Array Slot} (hl : lv_has ls 2 [(0, .ref (ad 100))]) (h : b_X6_lays_0 N M = some M') : W p l e ({ frames := 0, cells := 0, slots := 0, locals := 0 } : Room) s m args below meth c H locs 0 0 (MQ below (va_Qv (fun (_ : Unit) => True) (fun _ t => PA D cy ad 100 21 A M' t) A) args s 0 0 A) (F0 m 0 ls []) := by
  obtain ⟨hx, hb, hml, hown, hts, hr, hlk, hK, hN, hA, hX⟩ := id C
  unfold b_X6_lays_0 at h
  refine lv_iconst (v := 0) hx hb dX6_lays_0 (by decide) ?_
  refine lv_istore_n (lv' := [(1, .int (0 : Int32)), (0, .ref (ad 100))]) hx hb dX6_lays_1 rfl hl (by decide) rfl (fun ls hl => ?_)
  exact w_X6_lays_2 C N _ _ _ _ hP hD hS _ (lv_sub hl [1, 0] rfl) h
def f_X6_lays (N : Nat) (M : Mem) : Option (Mem) := b_X6_lays_0 N M
theorem c_X6_lays {l : Launch} {D : va_G} {cy : Nat → ClassId} {ad : Nat → Nat} {zz : (Nat → Nat) × (Nat → Nat)} {N : Nat} {M : Mem} {M' : Mem} (h : f_X6_lays N M = some M') : CTv l D cy ad zz 100 21 yX6_lays (.code yX6_lays cX6_lays 2 none :: tb) ({ frames := 0, cells := 0, slots := 0, locals := 0 } : Room) [.ref (ad 100)] M M' := by
  intro sz
  refine CX.of (by decide +kernel) (fun p e s m args below meth c H ls C hP hD hS hl => ?_) (Nat.le_of_ble_eq_true rfl)
  exact w_X6_lays_0 C hP hD hS hl h
theorem ev_X6_lays : yX6_lays.cls = RX6 ∧ yX6_lays.cls ≠ "java/lang/invoke/MethodHandle" ∧ yX6_lays.cls ≠ "java/lang/invoke/VarHandle" ∧ (parseMethodDescriptor yX6_lays.desc).map (fun d => d.parameters.length) = some 0 := by decide +kernel
def b_X6_goes_39 (N : Nat) (x1 : Int32) : Nat → Int32 → Mem → Option (Mem)
  | 0, _, _ => none
  | fu + 1, x2, M => (if x1 ≤ x2 then some M else (f_X6_nightOf N M).bind fun M45 => b_X6_goes_39 N x1 fu (x2 + (1 : Int32)) M45)
set_option maxHeartbeats 4000000 in
set_option maxRecDepth 100000 in
theorem w_X6_goes_39 (C : CX p s m args meth c cX6_goes 3 none RX6 D cy ad zz 100 21 A) {N : Nat} {x1 : Int32} {M' : Mem}  : ∀ (fu : Nat), ∀ (x2 : Int32), ∀ (M : Mem), ∀ (H : Heap) (locs : List Loc), va_P D vwCl (pool cy ad 100 21 M) H → va_D A (pool cy ad 100 21 M) → va_S A s.heap H locs → ∀ (ls : Array Slot), lv_has ls 3 [(0, .ref (ad 100)), (1, .int x1), (2, .int x2)] → b_X6_goes_39 N x1 fu x2 M = some M' → W p l e ({ frames := 5, cells := 0, slots := 0, locals := 118 } : Room) s m args below meth c H locs 0 0 (MQ below (va_Qv (fun (_ : Unit) => True) (fun _ t => PA D cy ad 100 21 A M' t) A) args s 0 0 A) (F0 m 39 ls []) := by
  obtain ⟨hx, hb, hml, hown, hts, hr, hlk, hK, hN, hA, hX⟩ := id C
  intro fu
  induction fu with
  | zero =>
    intro x2 M H locs hP hD hS ls hl h
    exact no_some (show none = some _ from h)
  | succ fu ih =>
    intro x2 M H locs hP hD hS ls hl h
    rw [b_X6_goes_39] at h
    refine lv_iload_n hx hb dX6_goes_39 rfl (lv_at hl 2 rfl) ?_
    refine lv_iload_n hx hb dX6_goes_40 rfl (lv_at hl 1 rfl) ?_
    refine lv_icmp_ge (tgt := 54) hx hb dX6_goes_41 (by decide) (fun c41 => ?_) (fun c41 => ?_)
    · replace h := it_t c41 h
      exact rt_v C hP hD hS dX6_goes_54 (Option.some.inj h)
    · replace h := it_f c41 h
      refine lv_aload_n hx hb dX6_goes_44 rfl (lv_at hl 0 rfl) ?_
      obtain ⟨M45, g45, h⟩ := bd_of h
      refine call_vV (As := []) (rest := []) C hP hD hS (c_X6_nightOf g45) (iL (by decide)) ⟨6, _, _, ent_6 (by decide), rfl, rfl⟩ (gV wd_1088 wd_1090 wd_45 wd_75 wd_1091) ev_X6_nightOf ⟨rfl, rfl⟩ ⟨Nat.le_of_ble_eq_true rfl, Nat.le_of_ble_eq_true rfl⟩ hl.1 rfl (Nat.le_of_ble_eq_true rfl) dX6_goes_45 (fun H locs hP hD hS => ?_)
      refine lv_iinc (v := (x2 + (1 : Int32))) (lv' := [(2, .int (x2 + (1 : Int32))), (0, .ref (ad 100)), (1, .int x1)]) hx hb dX6_goes_48 hl (k := 2) rfl rfl (by decide) rfl (fun ls hl => ?_)
      refine lv_goto (tgt := 39) hx hb dX6_goes_51 (by decide) ?_
      exact ih _ _ _ _ hP hD hS _ (lv_sub hl [1, 2, 0] rfl) h
def b_X6_goes_31 (N : Nat) (x1 : Int32) (k7 : Int32 → Mem → Option (Mem)) (x2 : Int32) (M : Mem) : Option (Mem) := k7 (x2 + (1 : Int32)) M
set_option maxHeartbeats 4000000 in
set_option maxRecDepth 100000 in
theorem w_X6_goes_31 (C : CX p s m args meth c cX6_goes 3 none RX6 D cy ad zz 100 21 A) {N : Nat} {M : Mem} {x1 : Int32} {k7 : Int32 → Mem → Option (Mem)} {M' : Mem} (hk7 : ∀ (x2 : Int32), ∀ (M : Mem), ∀ (H : Heap) (locs : List Loc), va_P D vwCl (pool cy ad 100 21 M) H → va_D A (pool cy ad 100 21 M) → va_S A s.heap H locs → ∀ (ls : Array Slot), lv_has ls 3 [(0, .ref (ad 100)), (1, .int x1), (2, .int x2)] → k7 x2 M = some M' → W p l e ({ frames := 5, cells := 0, slots := 0, locals := 118 } : Room) s m args below meth c H locs 0 0 (MQ below (va_Qv (fun (_ : Unit) => True) (fun _ t => PA D cy ad 100 21 A M' t) A) args s 0 0 A) (F0 m 7 ls [])) {x2 : Int32} {H : Heap} {locs : List Loc} (hP : va_P D vwCl (pool cy ad 100 21 M) H) (hD : va_D A (pool cy ad 100 21 M)) (hS : va_S A s.heap H locs) {ls : Array Slot} (hl : lv_has ls 3 [(0, .ref (ad 100)), (1, .int x1), (2, .int x2)]) (h : b_X6_goes_31 N x1 k7 x2 M = some M') : W p l e ({ frames := 5, cells := 0, slots := 0, locals := 118 } : Room) s m args below meth c H locs 0 0 (MQ below (va_Qv (fun (_ : Unit) => True) (fun _ t => PA D cy ad 100 21 A M' t) A) args s 0 0 A) (F0 m 31 ls []) := by
  obtain ⟨hx, hb, hml, hown, hts, hr, hlk, hK, hN, hA, hX⟩ := id C
  unfold b_X6_goes_31 at h
  refine lv_iinc (v := (x2 + (1 : Int32))) (lv' := [(2, .int (x2 + (1 : Int32))), (0, .ref (ad 100)), (1, .int x1)]) hx hb dX6_goes_31 hl (k := 2) rfl rfl (by decide) rfl (fun ls hl => ?_)
  refine lv_goto (tgt := 7) hx hb dX6_goes_34 (by decide) ?_
  exact hk7 _ _ _ _ hP hD hS _ (lv_sub hl [1, 2, 0] rfl) h
def b_X6_goes_7 (N : Nat) (x1 : Int32) : Nat → Int32 → Mem → Option (Mem)
  | 0, _, _ => none
  | fu + 1, x2, M => (if (FI M 100 0) ≤ x2 then b_X6_goes_39 N x1 N (0 : Int32) M else gd (inb ((5 : Int32) * x2) (len 103)) (gd (inb x2 (len 119)) (b_X6_goes_31 N x1 (b_X6_goes_7 N x1 fu) x2 (sAJ M 119 x2.toNatClampNeg ((1 : Int64) <<< ((AI M 103 ((5 : Int32) * x2).toNatClampNeg).toInt64 &&& 63))))))
set_option maxHeartbeats 4000000 in
set_option maxRecDepth 100000 in
theorem w_X6_goes_7 (C : CX p s m args meth c cX6_goes 3 none RX6 D cy ad zz 100 21 A) {N : Nat} {x1 : Int32} {M' : Mem}  : ∀ (fu : Nat), ∀ (x2 : Int32), ∀ (M : Mem), ∀ (H : Heap) (locs : List Loc), va_P D vwCl (pool cy ad 100 21 M) H → va_D A (pool cy ad 100 21 M) → va_S A s.heap H locs → ∀ (ls : Array Slot), lv_has ls 3 [(0, .ref (ad 100)), (1, .int x1), (2, .int x2)] → b_X6_goes_7 N x1 fu x2 M = some M' → W p l e ({ frames := 5, cells := 0, slots := 0, locals := 118 } : Room) s m args below meth c H locs 0 0 (MQ below (va_Qv (fun (_ : Unit) => True) (fun _ t => PA D cy ad 100 21 A M' t) A) args s 0 0 A) (F0 m 7 ls []) := by
  obtain ⟨hx, hb, hml, hown, hts, hr, hlk, hK, hN, hA, hX⟩ := id C
  intro fu
  induction fu with
  | zero =>
    intro x2 M H locs hP hD hS ls hl h
    exact no_some (show none = some _ from h)
  | succ fu ih =>
    intro x2 M H locs hP hD hS ls hl h
    rw [b_X6_goes_7] at h
    refine lv_iload_n hx hb dX6_goes_7 rfl (lv_at hl 2 rfl) ?_
    refine lv_aload_n hx hb dX6_goes_8 rfl (lv_at hl 0 rfl) ?_
    refine gf_6_0 C hP (iL (by decide)) (by decide) wd_882 dX6_goes_9 ?_
    refine lv_icmp_ge (tgt := 37) hx hb dX6_goes_12 (by decide) (fun c12 => ?_) (fun c12 => ?_)
    · replace h := it_t c12 h
      refine lv_iconst (v := 0) hx hb dX6_goes_37 (by decide) ?_
      refine lv_istore_n (lv' := [(2, .int (0 : Int32)), (0, .ref (ad 100)), (1, .int x1)]) hx hb dX6_goes_38 rfl hl (by decide) rfl (fun ls hl => ?_)
      exact w_X6_goes_39 C N _ _ _ _ hP hD hS _ (lv_sub hl [1, 2, 0] rfl) h
    · replace h := it_f c12 h
      refine lv_aload_n hx hb dX6_goes_15 rfl (lv_at hl 0 rfl) ?_
      refine gf_6_33 C hP (iL (by decide)) (by decide) wd_915 dX6_goes_16 ?_
      refine lv_iload_n hx hb dX6_goes_19 rfl (lv_at hl 2 rfl) ?_
      refine lv_lconst (v := 1) hx hb dX6_goes_20 (by decide) ?_
      refine lv_aload_n hx hb dX6_goes_21 rfl (lv_at hl 0 rfl) ?_
      refine gf_6_3 C hP (iL (by decide)) (by decide) wd_885 dX6_goes_22 ?_
      refine lv_iconst (v := 5) hx hb dX6_goes_25 (by decide) ?_
      refine lv_iload_n hx hb dX6_goes_26 rfl (lv_at hl 2 rfl) ?_
      refine lv_imul hx hb dX6_goes_27 ?_
      obtain ⟨gi1, h⟩ := gd_of h
      refine ia_ld C hP (iL (by decide)) (by decide) gi1 dX6_goes_28 ?_
      refine lv_lshl (v := ((1 : Int64) <<< ((AI M 103 ((5 : Int32) * x2).toNatClampNeg).toInt64 &&& 63))) hx hb dX6_goes_29 rfl ?_
      obtain ⟨gi2, h⟩ := gd_of h
      refine la_st C hP hD hS (iL (by decide)) (by decide) gi2 dX6_goes_30 (fun H locs hP hD hS => ?_)
      exact w_X6_goes_31 C ih hP hD hS hl h
def b_X6_goes_5 (N : Nat) (x1 : Int32) (M : Mem) : Option (Mem) := b_X6_goes_7 N x1 N (0 : Int32) M
set_option maxHeartbeats 4000000 in
set_option maxRecDepth 100000 in
theorem w_X6_goes_5 (C : CX p s m args meth c cX6_goes 3 none RX6 D cy ad zz 100 21 A) {N : Nat} {M : Mem} {x1 : Int32} {M' : Mem} {H : Heap} {locs : List Loc} (hP : va_P D vwCl (pool cy ad 100 21 M) H) (hD : va_D A (pool cy ad 100 21 M)) (hS : va_S A s.heap H locs) {ls : Array Slot} (hl : lv_has ls 3 [(0, .ref (ad 100)), (1, .int x1)]) (h : b_X6_goes_5 N x1 M = some M') : W p l e ({ frames := 5, cells := 0, slots := 0, locals := 118 } : Room) s m args below meth c H locs 0 0 (MQ below (va_Qv (fun (_ : Unit) => True) (fun _ t => PA D cy ad 100 21 A M' t) A) args s 0 0 A) (F0 m 5 ls []) := by
  obtain ⟨hx, hb, hml, hown, hts, hr, hlk, hK, hN, hA, hX⟩ := id C
  unfold b_X6_goes_5 at h
  refine lv_iconst (v := 0) hx hb dX6_goes_5 (by decide) ?_
  refine lv_istore_n (lv' := [(2, .int (0 : Int32)), (0, .ref (ad 100)), (1, .int x1)]) hx hb dX6_goes_6 rfl hl (by decide) rfl (fun ls hl => ?_)
  exact w_X6_goes_7 C N _ _ _ _ hP hD hS _ (lv_sub hl [1, 2, 0] rfl) h
def b_X6_goes_0 (N : Nat) (x1 : Int32) (M : Mem) : Option (Mem) := b_X6_goes_5 N x1 (sFI M 100 34 (0 : Int32))
set_option maxHeartbeats 4000000 in
set_option maxRecDepth 100000 in
theorem w_X6_goes_0 (C : CX p s m args meth c cX6_goes 3 none RX6 D cy ad zz 100 21 A) {N : Nat} {M : Mem} {x1 : Int32} {M' : Mem} {H : Heap} {locs : List Loc} (hP : va_P D vwCl (pool cy ad 100 21 M) H) (hD : va_D A (pool cy ad 100 21 M)) (hS : va_S A s.heap H locs) {ls : Array Slot} (hl : lv_has ls 3 [(0, .ref (ad 100)), (1, .int x1)]) (h : b_X6_goes_0 N x1 M = some M') : W p l e ({ frames := 5, cells := 0, slots := 0, locals := 118 } : Room) s m args below meth c H locs 0 0 (MQ below (va_Qv (fun (_ : Unit) => True) (fun _ t => PA D cy ad 100 21 A M' t) A) args s 0 0 A) (F0 m 0 ls []) := by
  obtain ⟨hx, hb, hml, hown, hts, hr, hlk, hK, hN, hA, hX⟩ := id C
  unfold b_X6_goes_0 at h
  refine lv_aload_n hx hb dX6_goes_0 rfl (lv_at hl 0 rfl) ?_
  refine lv_iconst (v := 0) hx hb dX6_goes_1 (by decide) ?_
  refine pf_6_34 C hP hD hS (iL (by decide)) (by decide) wd_916 dX6_goes_2 (fun H locs hP hD hS => ?_)
  exact w_X6_goes_5 C hP hD hS hl h
def f_X6_goes (N : Nat) (x1 : Int32) (M : Mem) : Option (Mem) := b_X6_goes_0 N x1 M
theorem c_X6_goes {l : Launch} {D : va_G} {cy : Nat → ClassId} {ad : Nat → Nat} {zz : (Nat → Nat) × (Nat → Nat)} {N : Nat} {x1 : Int32} {M : Mem} {M' : Mem} (h : f_X6_goes N x1 M = some M') : CTv l D cy ad zz 100 21 yX6_goes (.code yX6_goes cX6_goes 3 none :: tb) ({ frames := 5, cells := 0, slots := 0, locals := 118 } : Room) [.ref (ad 100), .int x1] M M' := by
  intro sz
  refine CX.of (by decide +kernel) (fun p e s m args below meth c H ls C hP hD hS hl => ?_) (Nat.le_of_ble_eq_true rfl)
  exact w_X6_goes_0 C hP hD hS hl h
theorem ev_X6_goes : yX6_goes.cls = RX6 ∧ yX6_goes.cls ≠ "java/lang/invoke/MethodHandle" ∧ yX6_goes.cls ≠ "java/lang/invoke/VarHandle" ∧ (parseMethodDescriptor yX6_goes.desc).map (fun d => d.parameters.length) = some 1 := by decide +kernel
def b_X6_mindsAll_4 (N : Nat) : Nat → Int32 → Int32 → Mem → Option (Int32 × Mem)
  | 0, _, _, _ => none
  | fu + 1, x1, x2, M => (if (FI M 100 0) ≤ x2 then some (x1, M) else bd2 (f_X6_mindsOf N x2 M) fun r15 M15 => b_X6_mindsAll_4 N fu (x1 + r15) (x2 + (1 : Int32)) M15)
set_option maxHeartbeats 4000000 in
set_option maxRecDepth 100000 in
theorem w_X6_mindsAll_4 (C : CX p s m args meth c cX6_mindsAll 3 (some .int) RX6 D cy ad zz 100 21 A) {N : Nat} {rr : Int32} {M' : Mem}  : ∀ (fu : Nat), ∀ (x1 : Int32), ∀ (x2 : Int32), ∀ (M : Mem), ∀ (H : Heap) (locs : List Loc), va_P D vwCl (pool cy ad 100 21 M) H → va_D A (pool cy ad 100 21 M) → va_S A s.heap H locs → ∀ (ls : Array Slot), lv_has ls 3 [(0, .ref (ad 100)), (1, .int x1), (2, .int x2)] → b_X6_mindsAll_4 N fu x1 x2 M = some (rr, M') → W p l e ({ frames := 4, cells := 0, slots := 0, locals := 90 } : Room) s m args below meth c H locs 0 0 (MQ below (va_Qi (fun (x : Int32) (_ : Unit) => x = rr) (fun _ t => PA D cy ad 100 21 A M' t) A) args s 0 0 A) (F0 m 4 ls []) := by
  obtain ⟨hx, hb, hml, hown, hts, hr, hlk, hK, hN, hA, hX⟩ := id C
  intro fu
  induction fu with
  | zero =>
    intro x1 x2 M H locs hP hD hS ls hl h
    exact no_some (show none = some _ from h)
  | succ fu ih =>
    intro x1 x2 M H locs hP hD hS ls hl h
    rw [b_X6_mindsAll_4] at h
    refine lv_iload_n hx hb dX6_mindsAll_4 rfl (lv_at hl 2 rfl) ?_
    refine lv_aload_n hx hb dX6_mindsAll_5 rfl (lv_at hl 0 rfl) ?_
    refine gf_6_0 C hP (iL (by decide)) (by decide) wd_882 dX6_mindsAll_6 ?_
    refine lv_icmp_ge (tgt := 26) hx hb dX6_mindsAll_9 (by decide) (fun c9 => ?_) (fun c9 => ?_)
    · replace h := it_t c9 h
      refine lv_iload_n hx hb dX6_mindsAll_26 rfl (lv_at hl 1 rfl) ?_
      exact rt_i (r := x1) C hP hD hS dX6_mindsAll_27 (rw_end h)
    · replace h := it_f c9 h
      refine lv_iload_n hx hb dX6_mindsAll_12 rfl (lv_at hl 1 rfl) ?_
      refine lv_aload_n hx hb dX6_mindsAll_13 rfl (lv_at hl 0 rfl) ?_
      refine lv_iload_n hx hb dX6_mindsAll_14 rfl (lv_at hl 2 rfl) ?_
      obtain ⟨r15, M15, g15, h⟩ := bd2_of h
      refine call_iV (As := [.int x2]) (rest := [.int x1]) C hP hD hS (c_X6_mindsOf g15) (iL (by decide)) ⟨6, _, _, ent_6 (by decide), rfl, rfl⟩ (gV wd_1068 wd_1070 wd_43 wd_75 wd_1071) ev_X6_mindsOf ⟨rfl, rfl⟩ ⟨Nat.le_of_ble_eq_true rfl, Nat.le_of_ble_eq_true rfl⟩ hl.1 rfl (Nat.le_of_ble_eq_true rfl) dX6_mindsAll_15 (fun H locs hP hD hS => ?_)
      refine lv_iadd hx hb dX6_mindsAll_18 ?_
      refine lv_istore_n (lv' := [(1, .int (x1 + r15)), (0, .ref (ad 100)), (2, .int x2)]) hx hb dX6_mindsAll_19 rfl hl (by decide) rfl (fun ls hl => ?_)
      refine lv_iinc (v := (x2 + (1 : Int32))) (lv' := [(2, .int (x2 + (1 : Int32))), (1, .int (x1 + r15)), (0, .ref (ad 100))]) hx hb dX6_mindsAll_20 hl (k := 2) rfl rfl (by decide) rfl (fun ls hl => ?_)
      refine lv_goto (tgt := 4) hx hb dX6_mindsAll_23 (by decide) ?_
      exact ih _ _ _ _ _ hP hD hS _ (lv_sub hl [2, 1, 0] rfl) h
def b_X6_mindsAll_0 (N : Nat) (M : Mem) : Option (Int32 × Mem) := b_X6_mindsAll_4 N N (0 : Int32) (0 : Int32) M
set_option maxHeartbeats 4000000 in
set_option maxRecDepth 100000 in
theorem w_X6_mindsAll_0 (C : CX p s m args meth c cX6_mindsAll 3 (some .int) RX6 D cy ad zz 100 21 A) {N : Nat} {M : Mem} {rr : Int32} {M' : Mem} {H : Heap} {locs : List Loc} (hP : va_P D vwCl (pool cy ad 100 21 M) H) (hD : va_D A (pool cy ad 100 21 M)) (hS : va_S A s.heap H locs) {ls : Array Slot} (hl : lv_has ls 3 [(0, .ref (ad 100))]) (h : b_X6_mindsAll_0 N M = some (rr, M')) : W p l e ({ frames := 4, cells := 0, slots := 0, locals := 90 } : Room) s m args below meth c H locs 0 0 (MQ below (va_Qi (fun (x : Int32) (_ : Unit) => x = rr) (fun _ t => PA D cy ad 100 21 A M' t) A) args s 0 0 A) (F0 m 0 ls []) := by
  obtain ⟨hx, hb, hml, hown, hts, hr, hlk, hK, hN, hA, hX⟩ := id C
  unfold b_X6_mindsAll_0 at h
  refine lv_iconst (v := 0) hx hb dX6_mindsAll_0 (by decide) ?_
  refine lv_istore_n (lv' := [(1, .int (0 : Int32)), (0, .ref (ad 100))]) hx hb dX6_mindsAll_1 rfl hl (by decide) rfl (fun ls hl => ?_)
  refine lv_iconst (v := 0) hx hb dX6_mindsAll_2 (by decide) ?_
  refine lv_istore_n (lv' := [(2, .int (0 : Int32)), (1, .int (0 : Int32)), (0, .ref (ad 100))]) hx hb dX6_mindsAll_3 rfl hl (by decide) rfl (fun ls hl => ?_)
  exact w_X6_mindsAll_4 C N _ _ _ _ _ hP hD hS _ (lv_sub hl [2, 1, 0] rfl) h
def f_X6_mindsAll (N : Nat) (M : Mem) : Option (Int32 × Mem) := b_X6_mindsAll_0 N M
theorem c_X6_mindsAll {l : Launch} {D : va_G} {cy : Nat → ClassId} {ad : Nat → Nat} {zz : (Nat → Nat) × (Nat → Nat)} {N : Nat} {M : Mem} {rr : Int32} {M' : Mem} (h : f_X6_mindsAll N M = some (rr, M')) : CTi l D cy ad zz 100 21 yX6_mindsAll (.code yX6_mindsAll cX6_mindsAll 3 (some .int) :: tb) ({ frames := 4, cells := 0, slots := 0, locals := 90 } : Room) [.ref (ad 100)] M rr M' := by
  intro sz
  refine CX.of (by decide +kernel) (fun p e s m args below meth c H ls C hP hD hS hl => ?_) (Nat.le_of_ble_eq_true rfl)
  exact w_X6_mindsAll_0 C hP hD hS hl h
theorem ev_X6_mindsAll : yX6_mindsAll.cls = RX6 ∧ yX6_mindsAll.cls ≠ "java/lang/invoke/MethodHandle" ∧ yX6_mindsAll.cls ≠ "java/lang/invoke/VarHandle" ∧ (parseMethodDescriptor yX6_mindsAll.desc).map (fun d => d.parameters.length) = some 0 := by decide +kernel
def b_X6_twosNow_49 (N : Nat) (M : Mem) (k4 : Int32 → Int32 → Option (Int32)) (k16 : Int32 → Int32 → Int32 → Option (Int32)) (x2 : Int32) (x3 : Int32) (t0 : Int32) (t1 : Int32) : Option (Int32) := k16 (t0 + t1) x2 (x3 + (1 : Int32))
set_option maxHeartbeats 4000000 in
set_option maxRecDepth 100000 in
theorem w_X6_twosNow_49 (C : CX p s m args meth c cX6_twosNow 4 (some .int) RX6 D cy ad zz 100 21 A) {N : Nat} {M : Mem} {k4 : Int32 → Int32 → Option (Int32)} {k16 : Int32 → Int32 → Int32 → Option (Int32)} {rr : Int32} (hk4 : ∀ (x1 : Int32), ∀ (x2 : Int32), ∀ (H : Heap) (locs : List Loc), va_P D vwCl (pool cy ad 100 21 M) H → va_D A (pool cy ad 100 21 M) → va_S A s.heap H locs → ∀ (ls : Array Slot), lv_has ls 4 [(0, .ref (ad 100)), (1, .int x1), (2, .int x2)] → k4 x1 x2 = some rr → W p l e ({ frames := 0, cells := 0, slots := 0, locals := 0 } : Room) s m args below meth c H locs 0 0 (MQ below (va_Qi (fun (x : Int32) (_ : Unit) => x = rr) (fun _ t => PA D cy ad 100 21 A M t) A) args s 0 0 A) (F0 m 4 ls [])) (hk16 : ∀ (x1 : Int32), ∀ (x2 : Int32), ∀ (x3 : Int32), ∀ (H : Heap) (locs : List Loc), va_P D vwCl (pool cy ad 100 21 M) H → va_D A (pool cy ad 100 21 M) → va_S A s.heap H locs → ∀ (ls : Array Slot), lv_has ls 4 [(0, .ref (ad 100)), (1, .int x1), (2, .int x2), (3, .int x3)] → k16 x1 x2 x3 = some rr → W p l e ({ frames := 0, cells := 0, slots := 0, locals := 0 } : Room) s m args below meth c H locs 0 0 (MQ below (va_Qi (fun (x : Int32) (_ : Unit) => x = rr) (fun _ t => PA D cy ad 100 21 A M t) A) args s 0 0 A) (F0 m 16 ls [])) {x2 : Int32} {x3 : Int32} {t0 : Int32} {t1 : Int32} {H : Heap} {locs : List Loc} (hP : va_P D vwCl (pool cy ad 100 21 M) H) (hD : va_D A (pool cy ad 100 21 M)) (hS : va_S A s.heap H locs) {ls : Array Slot} (hl : lv_has ls 4 [(0, .ref (ad 100)), (2, .int x2), (3, .int x3)]) (h : b_X6_twosNow_49 N M k4 k16 x2 x3 t0 t1 = some rr) : W p l e ({ frames := 0, cells := 0, slots := 0, locals := 0 } : Room) s m args below meth c H locs 0 0 (MQ below (va_Qi (fun (x : Int32) (_ : Unit) => x = rr) (fun _ t => PA D cy ad 100 21 A M t) A) args s 0 0 A) (F0 m 49 ls [.int t1, .int t0]) := by
  obtain ⟨hx, hb, hml, hown, hts, hr, hlk, hK, hN, hA, hX⟩ := id C
  unfold b_X6_twosNow_49 at h
  refine lv_iadd hx hb dX6_twosNow_49 ?_
  refine lv_istore_n (lv' := [(1, .int (t0 + t1)), (0, .ref (ad 100)), (2, .int x2), (3, .int x3)]) hx hb dX6_twosNow_50 rfl hl (by decide) rfl (fun ls hl => ?_)
  refine lv_iinc (v := (x3 + (1 : Int32))) (lv' := [(3, .int (x3 + (1 : Int32))), (1, .int (t0 + t1)), (0, .ref (ad 100)), (2, .int x2)]) hx hb dX6_twosNow_51 hl (k := 3) rfl rfl (by decide) rfl (fun ls hl => ?_)
  refine lv_goto (tgt := 16) hx hb dX6_twosNow_54 (by decide) ?_
  exact hk16 _ _ _ _ _ hP hD hS _ (lv_sub hl [2, 1, 3, 0] rfl) h
def b_X6_twosNow_16 (N : Nat) (M : Mem) (k4 : Int32 → Int32 → Option (Int32)) : Nat → Int32 → Int32 → Int32 → Option (Int32)
  | 0, _, _, _ => none
  | fu + 1, x1, x2, x3 => (if (FI M 100 0) ≤ x3 then k4 x1 (x2 + (1 : Int32)) else gd (inb ((5 : Int32) * x2) (len 103)) (gd (inb ((5 : Int32) * x3) (len 103)) ((if (AI M 103 ((5 : Int32) * x2).toNatClampNeg) = (AI M 103 ((5 : Int32) * x3).toNatClampNeg) then b_X6_twosNow_49 N M k4 (b_X6_twosNow_16 N M k4 fu) x2 x3 x1 (1 : Int32) else b_X6_twosNow_49 N M k4 (b_X6_twosNow_16 N M k4 fu) x2 x3 x1 (0 : Int32)))))
set_option maxHeartbeats 4000000 in
set_option maxRecDepth 100000 in
theorem w_X6_twosNow_16 (C : CX p s m args meth c cX6_twosNow 4 (some .int) RX6 D cy ad zz 100 21 A) {N : Nat} {M : Mem} {k4 : Int32 → Int32 → Option (Int32)} {rr : Int32} (hk4 : ∀ (x1 : Int32), ∀ (x2 : Int32), ∀ (H : Heap) (locs : List Loc), va_P D vwCl (pool cy ad 100 21 M) H → va_D A (pool cy ad 100 21 M) → va_S A s.heap H locs → ∀ (ls : Array Slot), lv_has ls 4 [(0, .ref (ad 100)), (1, .int x1), (2, .int x2)] → k4 x1 x2 = some rr → W p l e ({ frames := 0, cells := 0, slots := 0, locals := 0 } : Room) s m args below meth c H locs 0 0 (MQ below (va_Qi (fun (x : Int32) (_ : Unit) => x = rr) (fun _ t => PA D cy ad 100 21 A M t) A) args s 0 0 A) (F0 m 4 ls []))  : ∀ (fu : Nat), ∀ (x1 : Int32), ∀ (x2 : Int32), ∀ (x3 : Int32), ∀ (H : Heap) (locs : List Loc), va_P D vwCl (pool cy ad 100 21 M) H → va_D A (pool cy ad 100 21 M) → va_S A s.heap H locs → ∀ (ls : Array Slot), lv_has ls 4 [(0, .ref (ad 100)), (1, .int x1), (2, .int x2), (3, .int x3)] → b_X6_twosNow_16 N M k4 fu x1 x2 x3 = some rr → W p l e ({ frames := 0, cells := 0, slots := 0, locals := 0 } : Room) s m args below meth c H locs 0 0 (MQ below (va_Qi (fun (x : Int32) (_ : Unit) => x = rr) (fun _ t => PA D cy ad 100 21 A M t) A) args s 0 0 A) (F0 m 16 ls []) := by
  obtain ⟨hx, hb, hml, hown, hts, hr, hlk, hK, hN, hA, hX⟩ := id C
  intro fu
  induction fu with
  | zero =>
    intro x1 x2 x3 H locs hP hD hS ls hl h
    exact no_some (show none = some _ from h)
  | succ fu ih =>
    intro x1 x2 x3 H locs hP hD hS ls hl h
    rw [b_X6_twosNow_16] at h
    refine lv_iload_n hx hb dX6_twosNow_16 rfl (lv_at hl 3 rfl) ?_
    refine lv_aload_n hx hb dX6_twosNow_17 rfl (lv_at hl 0 rfl) ?_
    refine gf_6_0 C hP (iL (by decide)) (by decide) wd_882 dX6_twosNow_18 ?_
    refine lv_icmp_ge (tgt := 57) hx hb dX6_twosNow_21 (by decide) (fun c21 => ?_) (fun c21 => ?_)
    · replace h := it_t c21 h
      refine lv_iinc (v := (x2 + (1 : Int32))) (lv' := [(2, .int (x2 + (1 : Int32))), (0, .ref (ad 100)), (1, .int x1), (3, .int x3)]) hx hb dX6_twosNow_57 hl (k := 2) rfl rfl (by decide) rfl (fun ls hl => ?_)
      refine lv_goto (tgt := 4) hx hb dX6_twosNow_60 (by decide) ?_
      exact hk4 _ _ _ _ hP hD hS _ (lv_sub hl [1, 2, 0] rfl) h
    · replace h := it_f c21 h
      refine lv_iload_n hx hb dX6_twosNow_24 rfl (lv_at hl 1 rfl) ?_
      refine lv_aload_n hx hb dX6_twosNow_25 rfl (lv_at hl 0 rfl) ?_
      refine gf_6_3 C hP (iL (by decide)) (by decide) wd_885 dX6_twosNow_26 ?_
      refine lv_iconst (v := 5) hx hb dX6_twosNow_29 (by decide) ?_
      refine lv_iload_n hx hb dX6_twosNow_30 rfl (lv_at hl 2 rfl) ?_
      refine lv_imul hx hb dX6_twosNow_31 ?_
      obtain ⟨gi1, h⟩ := gd_of h
      refine ia_ld C hP (iL (by decide)) (by decide) gi1 dX6_twosNow_32 ?_
      refine lv_aload_n hx hb dX6_twosNow_33 rfl (lv_at hl 0 rfl) ?_
      refine gf_6_3 C hP (iL (by decide)) (by decide) wd_885 dX6_twosNow_34 ?_
      refine lv_iconst (v := 5) hx hb dX6_twosNow_37 (by decide) ?_
      refine lv_iload_n hx hb dX6_twosNow_38 rfl (lv_at hl 3 rfl) ?_
      refine lv_imul hx hb dX6_twosNow_39 ?_
      obtain ⟨gi2, h⟩ := gd_of h
      refine ia_ld C hP (iL (by decide)) (by decide) gi2 dX6_twosNow_40 ?_
      refine lv_icmp_ne (tgt := 48) hx hb dX6_twosNow_41 (by decide) (fun c41 => ?_) (fun c41 => ?_)
      · replace h := it_f c41 h
        refine lv_iconst (v := 0) hx hb dX6_twosNow_48 (by decide) ?_
        exact w_X6_twosNow_49 C hk4 ih hP hD hS (lv_sub hl [0, 2, 3] rfl) h
      · replace h := it_t c41 h
        refine lv_iconst (v := 1) hx hb dX6_twosNow_44 (by decide) ?_
        refine lv_goto (tgt := 49) hx hb dX6_twosNow_45 (by decide) ?_
        exact w_X6_twosNow_49 C hk4 ih hP hD hS (lv_sub hl [0, 2, 3] rfl) h
def b_X6_twosNow_4 (N : Nat) (M : Mem) : Nat → Int32 → Int32 → Option (Int32)
  | 0, _, _ => none
  | fu + 1, x1, x2 => (if (FI M 100 0) ≤ x2 then some x1 else b_X6_twosNow_16 N M (b_X6_twosNow_4 N M fu) N x1 x2 (x2 + (1 : Int32)))
set_option maxHeartbeats 4000000 in
set_option maxRecDepth 100000 in
theorem w_X6_twosNow_4 (C : CX p s m args meth c cX6_twosNow 4 (some .int) RX6 D cy ad zz 100 21 A) {N : Nat} {M : Mem} {rr : Int32}  : ∀ (fu : Nat), ∀ (x1 : Int32), ∀ (x2 : Int32), ∀ (H : Heap) (locs : List Loc), va_P D vwCl (pool cy ad 100 21 M) H → va_D A (pool cy ad 100 21 M) → va_S A s.heap H locs → ∀ (ls : Array Slot), lv_has ls 4 [(0, .ref (ad 100)), (1, .int x1), (2, .int x2)] → b_X6_twosNow_4 N M fu x1 x2 = some rr → W p l e ({ frames := 0, cells := 0, slots := 0, locals := 0 } : Room) s m args below meth c H locs 0 0 (MQ below (va_Qi (fun (x : Int32) (_ : Unit) => x = rr) (fun _ t => PA D cy ad 100 21 A M t) A) args s 0 0 A) (F0 m 4 ls []) := by
  obtain ⟨hx, hb, hml, hown, hts, hr, hlk, hK, hN, hA, hX⟩ := id C
  intro fu
  induction fu with
  | zero =>
    intro x1 x2 H locs hP hD hS ls hl h
    exact no_some (show none = some _ from h)
  | succ fu ih =>
    intro x1 x2 H locs hP hD hS ls hl h
    rw [b_X6_twosNow_4] at h
    refine lv_iload_n hx hb dX6_twosNow_4 rfl (lv_at hl 2 rfl) ?_
    refine lv_aload_n hx hb dX6_twosNow_5 rfl (lv_at hl 0 rfl) ?_
    refine gf_6_0 C hP (iL (by decide)) (by decide) wd_882 dX6_twosNow_6 ?_
    refine lv_icmp_ge (tgt := 63) hx hb dX6_twosNow_9 (by decide) (fun c9 => ?_) (fun c9 => ?_)
    · replace h := it_t c9 h
      refine lv_iload_n hx hb dX6_twosNow_63 rfl (lv_at hl 1 rfl) ?_
      exact rt_i (r := x1) C hP hD hS dX6_twosNow_64 ⟨Option.some.inj h, rfl⟩
    · replace h := it_f c9 h
      refine lv_iload_n hx hb dX6_twosNow_12 rfl (lv_at hl 2 rfl) ?_
      refine lv_iconst (v := 1) hx hb dX6_twosNow_13 (by decide) ?_
      refine lv_iadd hx hb dX6_twosNow_14 ?_
      refine lv_istore_n (lv' := [(3, .int (x2 + (1 : Int32))), (0, .ref (ad 100)), (1, .int x1), (2, .int x2)]) hx hb dX6_twosNow_15 rfl hl (by decide) rfl (fun ls hl => ?_)
      exact w_X6_twosNow_16 C ih N _ _ _ _ _ hP hD hS _ (lv_sub hl [1, 2, 3, 0] rfl) h
def b_X6_twosNow_0 (N : Nat) (M : Mem) : Option (Int32) := b_X6_twosNow_4 N M N (0 : Int32) (0 : Int32)
set_option maxHeartbeats 4000000 in
set_option maxRecDepth 100000 in
theorem w_X6_twosNow_0 (C : CX p s m args meth c cX6_twosNow 4 (some .int) RX6 D cy ad zz 100 21 A) {N : Nat} {M : Mem} {rr : Int32} {H : Heap} {locs : List Loc} (hP : va_P D vwCl (pool cy ad 100 21 M) H) (hD : va_D A (pool cy ad 100 21 M)) (hS : va_S A s.heap H locs) {ls : Array Slot} (hl : lv_has ls 4 [(0, .ref (ad 100))]) (h : b_X6_twosNow_0 N M = some rr) : W p l e ({ frames := 0, cells := 0, slots := 0, locals := 0 } : Room) s m args below meth c H locs 0 0 (MQ below (va_Qi (fun (x : Int32) (_ : Unit) => x = rr) (fun _ t => PA D cy ad 100 21 A M t) A) args s 0 0 A) (F0 m 0 ls []) := by
  obtain ⟨hx, hb, hml, hown, hts, hr, hlk, hK, hN, hA, hX⟩ := id C
  unfold b_X6_twosNow_0 at h
  refine lv_iconst (v := 0) hx hb dX6_twosNow_0 (by decide) ?_
  refine lv_istore_n (lv' := [(1, .int (0 : Int32)), (0, .ref (ad 100))]) hx hb dX6_twosNow_1 rfl hl (by decide) rfl (fun ls hl => ?_)
  refine lv_iconst (v := 0) hx hb dX6_twosNow_2 (by decide) ?_
  refine lv_istore_n (lv' := [(2, .int (0 : Int32)), (1, .int (0 : Int32)), (0, .ref (ad 100))]) hx hb dX6_twosNow_3 rfl hl (by decide) rfl (fun ls hl => ?_)
  exact w_X6_twosNow_4 C N _ _ _ _ hP hD hS _ (lv_sub hl [2, 1, 0] rfl) h
def f_X6_twosNow (N : Nat) (M : Mem) : Option (Int32) := b_X6_twosNow_0 N M
theorem c_X6_twosNow {l : Launch} {D : va_G} {cy : Nat → ClassId} {ad : Nat → Nat} {zz : (Nat → Nat) × (Nat → Nat)} {N : Nat} {M : Mem} {rr : Int32} (h : f_X6_twosNow N M = some rr) : CTi l D cy ad zz 100 21 yX6_twosNow (.code yX6_twosNow cX6_twosNow 4 (some .int) :: tb) ({ frames := 0, cells := 0, slots := 0, locals := 0 } : Room) [.ref (ad 100)] M rr M := by
  intro sz
  refine CX.of (by decide +kernel) (fun p e s m args below meth c H ls C hP hD hS hl => ?_) (Nat.le_of_ble_eq_true rfl)
  exact w_X6_twosNow_0 C hP hD hS hl h
theorem ev_X6_twosNow : yX6_twosNow.cls = RX6 ∧ yX6_twosNow.cls ≠ "java/lang/invoke/MethodHandle" ∧ yX6_twosNow.cls ≠ "java/lang/invoke/VarHandle" ∧ (parseMethodDescriptor yX6_twosNow.desc).map (fun d => d.parameters.length) = some 0 := by decide +kernel
def b_X6_toldBehind_0 (N : Nat) (x1 : Int32) (M : Mem) : Option (Int32 × Mem) := (if x1 = 0 then some ((FI M 100 34), M) else (if x1 = 1 then bd2 (f_X6_mindsAll N M) fun r34 M34 => some (r34, M34) else (if x1 = 2 then (f_X6_twosNow N M).bind fun r39 => some (r39, M) else (if (20 : Int32) ≤ x1 then gd (inb (((5 : Int32) * (x1 - (20 : Int32))) + (3 : Int32)) (len 103)) (some ((AI M 103 (((5 : Int32) * (x1 - (20 : Int32))) + (3 : Int32)).toNatClampNeg), M)) else gd (inb ((5 : Int32) * (x1 - (10 : Int32))) (len 103)) (some ((AI M 103 ((5 : Int32) * (x1 - (10 : Int32))).toNatClampNeg), M))))))
set_option maxHeartbeats 4000000 in
set_option maxRecDepth 100000 in
theorem w_X6_toldBehind_0 (C : CX p s m args meth c cX6_toldBehind 2 (some .int) RX6 D cy ad zz 100 21 A) {N : Nat} {M : Mem} {x1 : Int32} {rr : Int32} {M' : Mem} {H : Heap} {locs : List Loc} (hP : va_P D vwCl (pool cy ad 100 21 M) H) (hD : va_D A (pool cy ad 100 21 M)) (hS : va_S A s.heap H locs) {ls : Array Slot} (hl : lv_has ls 2 [(0, .ref (ad 100)), (1, .int x1)]) (h : b_X6_toldBehind_0 N x1 M = some (rr, M')) : W p l e ({ frames := 5, cells := 0, slots := 0, locals := 112 } : Room) s m args below meth c H locs 0 0 (MQ below (va_Qi (fun (x : Int32) (_ : Unit) => x = rr) (fun _ t => PA D cy ad 100 21 A M' t) A) args s 0 0 A) (F0 m 0 ls []) := by
  obtain ⟨hx, hb, hml, hown, hts, hr, hlk, hK, hN, hA, hX⟩ := id C
  unfold b_X6_toldBehind_0 at h
  refine lv_iload_n hx hb dX6_toldBehind_0 rfl (lv_at hl 1 rfl) ?_
  by_cases c1_0 : x1 = 0
  · replace h := it_t c1_0 h
    refine lv_tableIn (off := 27) (tgt := 28) hx hb dX6_toldBehind_1 (by rw [c1_0]; decide) (by rw [c1_0]; decide) (by rw [c1_0]; rfl) (by decide) ?_
    refine lv_aload_n hx hb dX6_toldBehind_28 rfl (lv_at hl 0 rfl) ?_
    refine gf_6_34 C hP (iL (by decide)) (by decide) wd_916 dX6_toldBehind_29 ?_
    exact rt_i (r := (FI M 100 34)) C hP hD hS dX6_toldBehind_32 (rw_end h)
  · replace h := it_f c1_0 h
    by_cases c1_1 : x1 = 1
    · replace h := it_t c1_1 h
      refine lv_tableIn (off := 32) (tgt := 33) hx hb dX6_toldBehind_1 (by rw [c1_1]; decide) (by rw [c1_1]; decide) (by rw [c1_1]; rfl) (by decide) ?_
      refine lv_aload_n hx hb dX6_toldBehind_33 rfl (lv_at hl 0 rfl) ?_
      obtain ⟨r34, M34, g34, h⟩ := bd2_of h
      refine call_iV (As := []) (rest := []) C hP hD hS (c_X6_mindsAll g34) (iL (by decide)) ⟨6, _, _, ent_6 (by decide), rfl, rfl⟩ (gV wd_1116 wd_1118 wd_50 wd_75 wd_1119) ev_X6_mindsAll ⟨rfl, rfl⟩ ⟨Nat.le_of_ble_eq_true rfl, Nat.le_of_ble_eq_true rfl⟩ hl.1 rfl (Nat.le_of_ble_eq_true rfl) dX6_toldBehind_34 (fun H locs hP hD hS => ?_)
      exact rt_i (r := r34) C hP hD hS dX6_toldBehind_37 (rw_end h)
    · replace h := it_f c1_1 h
      by_cases c1_2 : x1 = 2
      · replace h := it_t c1_2 h
        refine lv_tableIn (off := 37) (tgt := 38) hx hb dX6_toldBehind_1 (by rw [c1_2]; decide) (by rw [c1_2]; decide) (by rw [c1_2]; rfl) (by decide) ?_
        refine lv_aload_n hx hb dX6_toldBehind_38 rfl (lv_at hl 0 rfl) ?_
        obtain ⟨r39, g39, h⟩ := bd_of h
        refine call_iV (As := []) (rest := []) C hP hD hS (c_X6_twosNow g39) (iL (by decide)) ⟨6, _, _, ent_6 (by decide), rfl, rfl⟩ (gV wd_1120 wd_1122 wd_51 wd_75 wd_1123) ev_X6_twosNow ⟨rfl, rfl⟩ ⟨Nat.le_of_ble_eq_true rfl, Nat.le_of_ble_eq_true rfl⟩ hl.1 rfl (Nat.le_of_ble_eq_true rfl) dX6_toldBehind_39 (fun H locs hP hD hS => ?_)
        exact rt_i (r := r39) C hP hD hS dX6_toldBehind_42 (rw_end h)
      · replace h := it_f c1_2 h
        have e1_0 : x1.toInt ≠ 0 := fun q => c1_0 (Int32.toInt_inj.mp (q.trans (by decide)))
        have e1_1 : x1.toInt ≠ 1 := fun q => c1_1 (Int32.toInt_inj.mp (q.trans (by decide)))
        have e1_2 : x1.toInt ≠ 2 := fun q => c1_2 (Int32.toInt_inj.mp (q.trans (by decide)))
        refine lv_tableOut (tgt := 43) hx hb dX6_toldBehind_1 (by omega) (by decide) ?_
        refine lv_iload_n hx hb dX6_toldBehind_43 rfl (lv_at hl 1 rfl) ?_
        refine lv_bipush (v := 20) hx hb dX6_toldBehind_44 (by decide) ?_
        refine lv_icmp_ge (tgt := 63) hx hb dX6_toldBehind_46 (by decide) (fun c46 => ?_) (fun c46 => ?_)
        · replace h := it_t c46 h
          refine lv_aload_n hx hb dX6_toldBehind_63 rfl (lv_at hl 0 rfl) ?_
          refine gf_6_3 C hP (iL (by decide)) (by decide) wd_885 dX6_toldBehind_64 ?_
          refine lv_iconst (v := 5) hx hb dX6_toldBehind_67 (by decide) ?_
          refine lv_iload_n hx hb dX6_toldBehind_68 rfl (lv_at hl 1 rfl) ?_
          refine lv_bipush (v := 20) hx hb dX6_toldBehind_69 (by decide) ?_
          refine lv_isub hx hb dX6_toldBehind_71 ?_
          refine lv_imul hx hb dX6_toldBehind_72 ?_
          refine lv_iconst (v := 3) hx hb dX6_toldBehind_73 (by decide) ?_
          refine lv_iadd hx hb dX6_toldBehind_74 ?_
          obtain ⟨gi1, h⟩ := gd_of h
          refine ia_ld C hP (iL (by decide)) (by decide) gi1 dX6_toldBehind_75 ?_
          exact rt_i (r := (AI M 103 (((5 : Int32) * (x1 - (20 : Int32))) + (3 : Int32)).toNatClampNeg)) C hP hD hS dX6_toldBehind_76 (rw_end h)
        · replace h := it_f c46 h
          refine lv_aload_n hx hb dX6_toldBehind_49 rfl (lv_at hl 0 rfl) ?_
          refine gf_6_3 C hP (iL (by decide)) (by decide) wd_885 dX6_toldBehind_50 ?_
          refine lv_iconst (v := 5) hx hb dX6_toldBehind_53 (by decide) ?_
          refine lv_iload_n hx hb dX6_toldBehind_54 rfl (lv_at hl 1 rfl) ?_
          refine lv_bipush (v := 10) hx hb dX6_toldBehind_55 (by decide) ?_
          refine lv_isub hx hb dX6_toldBehind_57 ?_
          refine lv_imul hx hb dX6_toldBehind_58 ?_
          obtain ⟨gi2, h⟩ := gd_of h
          refine ia_ld C hP (iL (by decide)) (by decide) gi2 dX6_toldBehind_59 ?_
          refine lv_goto (tgt := 76) hx hb dX6_toldBehind_60 (by decide) ?_
          exact rt_i (r := (AI M 103 ((5 : Int32) * (x1 - (10 : Int32))).toNatClampNeg)) C hP hD hS dX6_toldBehind_76 (rw_end h)
def f_X6_toldBehind (N : Nat) (x1 : Int32) (M : Mem) : Option (Int32 × Mem) := b_X6_toldBehind_0 N x1 M
theorem c_X6_toldBehind {l : Launch} {D : va_G} {cy : Nat → ClassId} {ad : Nat → Nat} {zz : (Nat → Nat) × (Nat → Nat)} {N : Nat} {x1 : Int32} {M : Mem} {rr : Int32} {M' : Mem} (h : f_X6_toldBehind N x1 M = some (rr, M')) : CTi l D cy ad zz 100 21 yX6_toldBehind (.code yX6_toldBehind cX6_toldBehind 2 (some .int) :: tb) ({ frames := 5, cells := 0, slots := 0, locals := 112 } : Room) [.ref (ad 100), .int x1] M rr M' := by
  intro sz
  refine CX.of (by decide +kernel) (fun p e s m args below meth c H ls C hP hD hS hl => ?_) (Nat.le_of_ble_eq_true rfl)
  exact w_X6_toldBehind_0 C hP hD hS hl h
theorem ev_X6_toldBehind : yX6_toldBehind.cls = RX6 ∧ yX6_toldBehind.cls ≠ "java/lang/invoke/MethodHandle" ∧ yX6_toldBehind.cls ≠ "java/lang/invoke/VarHandle" ∧ (parseMethodDescriptor yX6_toldBehind.desc).map (fun d => d.parameters.length) = some 1 := by decide +kernel
def b_X6_run_46 (N : Nat) (x1 : Int32) (x2 : Int32) (t0 : Int32) (M : Mem) : Option (Int32 × Mem) := (f_X6_in x1 (0 : Int32) (40 : Int32) M).bind fun r51 => (if r51 = true then (if t0 = 0 then some ((-100000 : Int32), M) else (f_X6_keeps N M).bind fun M65 => (f_X6_goes N x1 M65).bind fun M70 => bd2 (f_X6_toldBehind N x2 M70) fun r75 M75 => (f_X6_lays N M75).bind fun M81 => some (r75, M81)) else some ((-100000 : Int32), M))
set_option maxHeartbeats 4000000 in
set_option maxRecDepth 100000 in
theorem w_X6_run_46 (C : CX p s m args meth c cX6_run 5 (some .int) RX6 D cy ad zz 100 21 A) {N : Nat} {M : Mem} {x1 : Int32} {x2 : Int32} {rr : Int32} {M' : Mem} {t0 : Int32} {H : Heap} {locs : List Loc} (hP : va_P D vwCl (pool cy ad 100 21 M) H) (hD : va_D A (pool cy ad 100 21 M)) (hS : va_S A s.heap H locs) {ls : Array Slot} (hl : lv_has ls 5 [(0, .ref (ad 100)), (1, .int x1), (2, .int x2)]) (h : b_X6_run_46 N x1 x2 t0 M = some (rr, M')) : W p l e ({ frames := 6, cells := 0, slots := 0, locals := 140 } : Room) s m args below meth c H locs 0 0 (MQ below (va_Qi (fun (x : Int32) (_ : Unit) => x = rr) (fun _ t => PA D cy ad 100 21 A M' t) A) args s 0 0 A) (F0 m 46 ls [.int t0]) := by
  obtain ⟨hx, hb, hml, hown, hts, hr, hlk, hK, hN, hA, hX⟩ := id C
  unfold b_X6_run_46 at h
  refine lv_istore_n (lv' := [(3, .int t0), (0, .ref (ad 100)), (1, .int x1), (2, .int x2)]) hx hb dX6_run_46 rfl hl (by decide) rfl (fun ls hl => ?_)
  refine lv_iload_n hx hb dX6_run_47 rfl (lv_at hl 2 rfl) ?_
  refine lv_iconst (v := 0) hx hb dX6_run_48 (by decide) ?_
  refine lv_bipush (v := 40) hx hb dX6_run_49 (by decide) ?_
  obtain ⟨r51, g51, h⟩ := bd_of h
  refine call_iS (As := [.int x1, .int (0 : Int32), .int (40 : Int32)]) (rest := []) C hP hD hS (c_X6_in g51) (gS wd_843 wd_844 wd_75 wd_845) es_X6_in ⟨rfl, rfl⟩ ⟨Nat.le_of_ble_eq_true rfl, Nat.le_of_ble_eq_true rfl⟩ hl.1 rfl (Nat.le_of_ble_eq_true rfl) dX6_run_51 (fun H locs hP hD hS => ?_)
  refine lv_if_eq (tgt := 61) hx hb dX6_run_54 (by decide) (fun c54 => ?_) (fun c54 => ?_)
  · replace h := it_f (b2i_n c54) h
    refine lv_ldc hx hb hown (hts _ wd_1103) dX6_run_61 ?_
    exact rt_i (r := (-100000 : Int32)) C hP hD hS dX6_run_63 (rw_end h)
  · replace h := it_t (b2i_1 c54) h
    refine lv_iload_n hx hb dX6_run_57 rfl (lv_at hl 0 rfl) ?_
    refine lv_if_ne (tgt := 64) hx hb dX6_run_58 (by decide) (fun c58 => ?_) (fun c58 => ?_)
    · replace h := it_f c58 h
      refine lv_aload_n hx hb dX6_run_64 rfl (lv_at hl 1 rfl) ?_
      obtain ⟨M65, g65, h⟩ := bd_of h
      refine call_vV (As := []) (rest := []) C hP hD hS (c_X6_keeps g65) (iL (by decide)) ⟨6, _, _, ent_6 (by decide), rfl, rfl⟩ (gV wd_1104 wd_1106 wd_47 wd_75 wd_1107) ev_X6_keeps ⟨rfl, rfl⟩ ⟨Nat.le_of_ble_eq_true rfl, Nat.le_of_ble_eq_true rfl⟩ hl.1 rfl (Nat.le_of_ble_eq_true rfl) dX6_run_65 (fun H locs hP hD hS => ?_)
      refine lv_aload_n hx hb dX6_run_68 rfl (lv_at hl 1 rfl) ?_
      refine lv_iload_n hx hb dX6_run_69 rfl (lv_at hl 2 rfl) ?_
      obtain ⟨M70, g70, h⟩ := bd_of h
      refine call_vV (As := [.int x1]) (rest := []) C hP hD hS (c_X6_goes g70) (iL (by decide)) ⟨6, _, _, ent_6 (by decide), rfl, rfl⟩ (gV wd_1108 wd_1110 wd_48 wd_75 wd_1111) ev_X6_goes ⟨rfl, rfl⟩ ⟨Nat.le_of_ble_eq_true rfl, Nat.le_of_ble_eq_true rfl⟩ hl.1 rfl (Nat.le_of_ble_eq_true rfl) dX6_run_70 (fun H locs hP hD hS => ?_)
      refine lv_aload_n hx hb dX6_run_73 rfl (lv_at hl 1 rfl) ?_
      refine lv_iload_n hx hb dX6_run_74 rfl (lv_at hl 3 rfl) ?_
      obtain ⟨r75, M75, g75, h⟩ := bd2_of h
      refine call_iV (As := [.int x2]) (rest := []) C hP hD hS (c_X6_toldBehind g75) (iL (by decide)) ⟨6, _, _, ent_6 (by decide), rfl, rfl⟩ (gV wd_1112 wd_1114 wd_49 wd_75 wd_1115) ev_X6_toldBehind ⟨rfl, rfl⟩ ⟨Nat.le_of_ble_eq_true rfl, Nat.le_of_ble_eq_true rfl⟩ hl.1 rfl (Nat.le_of_ble_eq_true rfl) dX6_run_75 (fun H locs hP hD hS => ?_)
      refine lv_istore (lv' := [(4, .int r75), (3, .int t0), (0, .ref (ad 100)), (1, .int x1), (2, .int x2)]) hx hb dX6_run_78 hl (by decide) rfl (fun ls hl => ?_)
      refine lv_aload_n hx hb dX6_run_80 rfl (lv_at hl 2 rfl) ?_
      obtain ⟨M81, g81, h⟩ := bd_of h
      refine call_vV (As := []) (rest := []) C hP hD hS (c_X6_lays g81) (iL (by decide)) ⟨6, _, _, ent_6 (by decide), rfl, rfl⟩ (gV wd_1124 wd_1126 wd_52 wd_75 wd_1127) ev_X6_lays ⟨rfl, rfl⟩ ⟨Nat.le_of_ble_eq_true rfl, Nat.le_of_ble_eq_true rfl⟩ hl.1 rfl (Nat.le_of_ble_eq_true rfl) dX6_run_81 (fun H locs hP hD hS => ?_)
      refine lv_iload hx hb dX6_run_84 (lv_at hl 0 rfl) ?_
      exact rt_i (r := r75) C hP hD hS dX6_run_86 (rw_end h)
    · replace h := it_t c58 h
      refine lv_ldc hx hb hown (hts _ wd_1103) dX6_run_61 ?_
      exact rt_i (r := (-100000 : Int32)) C hP hD hS dX6_run_63 (rw_end h)
def b_X6_run_41 (N : Nat) (x1 : Int32) (x2 : Int32) (M : Mem) : Option (Int32 × Mem) := b_X6_run_46 N x1 x2 (1 : Int32) M
set_option maxHeartbeats 4000000 in
set_option maxRecDepth 100000 in
theorem w_X6_run_41 (C : CX p s m args meth c cX6_run 5 (some .int) RX6 D cy ad zz 100 21 A) {N : Nat} {M : Mem} {x1 : Int32} {x2 : Int32} {rr : Int32} {M' : Mem} {H : Heap} {locs : List Loc} (hP : va_P D vwCl (pool cy ad 100 21 M) H) (hD : va_D A (pool cy ad 100 21 M)) (hS : va_S A s.heap H locs) {ls : Array Slot} (hl : lv_has ls 5 [(0, .ref (ad 100)), (1, .int x1), (2, .int x2)]) (h : b_X6_run_41 N x1 x2 M = some (rr, M')) : W p l e ({ frames := 6, cells := 0, slots := 0, locals := 140 } : Room) s m args below meth c H locs 0 0 (MQ below (va_Qi (fun (x : Int32) (_ : Unit) => x = rr) (fun _ t => PA D cy ad 100 21 A M' t) A) args s 0 0 A) (F0 m 41 ls []) := by
  obtain ⟨hx, hb, hml, hown, hts, hr, hlk, hK, hN, hA, hX⟩ := id C
  unfold b_X6_run_41 at h
  refine lv_iconst (v := 1) hx hb dX6_run_41 (by decide) ?_
  refine lv_goto (tgt := 46) hx hb dX6_run_42 (by decide) ?_
  exact w_X6_run_46 C hP hD hS hl h
def b_X6_run_0 (N : Nat) (x1 : Int32) (x2 : Int32) (M : Mem) : Option (Int32 × Mem) := (f_X6_in x2 (0 : Int32) (2 : Int32) M).bind fun r3 => (if r3 = true then b_X6_run_41 N x1 x2 M else (f_X6_in x2 (10 : Int32) ((9 : Int32) + (FI M 100 0)) M).bind fun r19 => (if r19 = true then b_X6_run_41 N x1 x2 M else (f_X6_in x2 (20 : Int32) ((19 : Int32) + (FI M 100 0)) M).bind fun r35 => (if r35 = true then b_X6_run_41 N x1 x2 M else b_X6_run_46 N x1 x2 (0 : Int32) M)))
set_option maxHeartbeats 4000000 in
set_option maxRecDepth 100000 in
theorem w_X6_run_0 (C : CX p s m args meth c cX6_run 5 (some .int) RX6 D cy ad zz 100 21 A) {N : Nat} {M : Mem} {x1 : Int32} {x2 : Int32} {rr : Int32} {M' : Mem} {H : Heap} {locs : List Loc} (hP : va_P D vwCl (pool cy ad 100 21 M) H) (hD : va_D A (pool cy ad 100 21 M)) (hS : va_S A s.heap H locs) {ls : Array Slot} (hl : lv_has ls 5 [(0, .ref (ad 100)), (1, .int x1), (2, .int x2)]) (h : b_X6_run_0 N x1 x2 M = some (rr, M')) : W p l e ({ frames := 6, cells := 0, slots := 0, locals := 140 } : Room) s m args below meth c H locs 0 0 (MQ below (va_Qi (fun (x : Int32) (_ : Unit) => x = rr) (fun _ t => PA D cy ad 100 21 A M' t) A) args s 0 0 A) (F0 m 0 ls []) := by
  obtain ⟨hx, hb, hml, hown, hts, hr, hlk, hK, hN, hA, hX⟩ := id C
  unfold b_X6_run_0 at h
  refine lv_iload_n hx hb dX6_run_0 rfl (lv_at hl 2 rfl) ?_
  refine lv_iconst (v := 0) hx hb dX6_run_1 (by decide) ?_
  refine lv_iconst (v := 2) hx hb dX6_run_2 (by decide) ?_
  obtain ⟨r3, g3, h⟩ := bd_of h
  refine call_iS (As := [.int x2, .int (0 : Int32), .int (2 : Int32)]) (rest := []) C hP hD hS (c_X6_in g3) (gS wd_843 wd_844 wd_75 wd_845) es_X6_in ⟨rfl, rfl⟩ ⟨Nat.le_of_ble_eq_true rfl, Nat.le_of_ble_eq_true rfl⟩ hl.1 rfl (Nat.le_of_ble_eq_true rfl) dX6_run_3 (fun H locs hP hD hS => ?_)
  refine lv_if_ne (tgt := 41) hx hb dX6_run_6 (by decide) (fun c6 => ?_) (fun c6 => ?_)
  · replace h := it_t (b2i_1 c6) h
    exact w_X6_run_41 C hP hD hS hl h
  · replace h := it_f (b2i_n c6) h
    refine lv_iload_n hx hb dX6_run_9 rfl (lv_at hl 2 rfl) ?_
    refine lv_bipush (v := 10) hx hb dX6_run_10 (by decide) ?_
    refine lv_bipush (v := 9) hx hb dX6_run_12 (by decide) ?_
    refine lv_aload_n hx hb dX6_run_14 rfl (lv_at hl 0 rfl) ?_
    refine gf_6_0 C hP (iL (by decide)) (by decide) wd_882 dX6_run_15 ?_
    refine lv_iadd hx hb dX6_run_18 ?_
    obtain ⟨r19, g19, h⟩ := bd_of h
    refine call_iS (As := [.int x2, .int (10 : Int32), .int ((9 : Int32) + (FI M 100 0))]) (rest := []) C hP hD hS (c_X6_in g19) (gS wd_843 wd_844 wd_75 wd_845) es_X6_in ⟨rfl, rfl⟩ ⟨Nat.le_of_ble_eq_true rfl, Nat.le_of_ble_eq_true rfl⟩ hl.1 rfl (Nat.le_of_ble_eq_true rfl) dX6_run_19 (fun H locs hP hD hS => ?_)
    refine lv_if_ne (tgt := 41) hx hb dX6_run_22 (by decide) (fun c22 => ?_) (fun c22 => ?_)
    · replace h := it_t (b2i_1 c22) h
      exact w_X6_run_41 C hP hD hS hl h
    · replace h := it_f (b2i_n c22) h
      refine lv_iload_n hx hb dX6_run_25 rfl (lv_at hl 2 rfl) ?_
      refine lv_bipush (v := 20) hx hb dX6_run_26 (by decide) ?_
      refine lv_bipush (v := 19) hx hb dX6_run_28 (by decide) ?_
      refine lv_aload_n hx hb dX6_run_30 rfl (lv_at hl 0 rfl) ?_
      refine gf_6_0 C hP (iL (by decide)) (by decide) wd_882 dX6_run_31 ?_
      refine lv_iadd hx hb dX6_run_34 ?_
      obtain ⟨r35, g35, h⟩ := bd_of h
      refine call_iS (As := [.int x2, .int (20 : Int32), .int ((19 : Int32) + (FI M 100 0))]) (rest := []) C hP hD hS (c_X6_in g35) (gS wd_843 wd_844 wd_75 wd_845) es_X6_in ⟨rfl, rfl⟩ ⟨Nat.le_of_ble_eq_true rfl, Nat.le_of_ble_eq_true rfl⟩ hl.1 rfl (Nat.le_of_ble_eq_true rfl) dX6_run_35 (fun H locs hP hD hS => ?_)
      refine lv_if_eq (tgt := 45) hx hb dX6_run_38 (by decide) (fun c38 => ?_) (fun c38 => ?_)
      · replace h := it_f (b2i_n c38) h
        refine lv_iconst (v := 0) hx hb dX6_run_45 (by decide) ?_
        exact w_X6_run_46 C hP hD hS hl h
      · replace h := it_t (b2i_1 c38) h
        exact w_X6_run_41 C hP hD hS hl h
def f_X6_run (N : Nat) (x1 : Int32) (x2 : Int32) (M : Mem) : Option (Int32 × Mem) := b_X6_run_0 N x1 x2 M
theorem c_X6_run {l : Launch} {D : va_G} {cy : Nat → ClassId} {ad : Nat → Nat} {zz : (Nat → Nat) × (Nat → Nat)} {N : Nat} {x1 : Int32} {x2 : Int32} {M : Mem} {rr : Int32} {M' : Mem} (h : f_X6_run N x1 x2 M = some (rr, M')) : CTi l D cy ad zz 100 21 yX6_run (.code yX6_run cX6_run 5 (some .int) :: tb) ({ frames := 6, cells := 0, slots := 0, locals := 140 } : Room) [.ref (ad 100), .int x1, .int x2] M rr M' := by
  intro sz
  refine CX.of (by decide +kernel) (fun p e s m args below meth c H ls C hP hD hS hl => ?_) (Nat.le_of_ble_eq_true rfl)
  exact w_X6_run_0 C hP hD hS hl h
theorem ev_X6_run : yX6_run.cls = RX6 ∧ yX6_run.cls ≠ "java/lang/invoke/MethodHandle" ∧ yX6_run.cls ≠ "java/lang/invoke/VarHandle" ∧ (parseMethodDescriptor yX6_run.desc).map (fun d => d.parameters.length) = some 2 := by decide +kernel
def b_X6_tracked_50 (N : Nat) (x1 : Int32) (x2 : Int32) (k18 : Int64 → Int32 → Mem → Option (Int64 × Mem)) (x5 : Int32) (u0 : Int64) (u1 : Int64) (M : Mem) : Option (Int64 × Mem) := k18 (u0 ||| u1) (x5 + (1 : Int32)) M
set_option maxHeartbeats 4000000 in
set_option maxRecDepth 100000 in
theorem w_X6_tracked_50 (C : CX p s m args meth c cX6_tracked 6 (some .long) RX6 D cy ad zz 100 21 A) {N : Nat} {M : Mem} {x1 : Int32} {x2 : Int32} {k18 : Int64 → Int32 → Mem → Option (Int64 × Mem)} {rr : Int64} {M' : Mem} (hk18 : ∀ (y3 : Int64), ∀ (x5 : Int32), ∀ (M : Mem), ∀ (H : Heap) (locs : List Loc), va_P D vwCl (pool cy ad 100 21 M) H → va_D A (pool cy ad 100 21 M) → va_S A s.heap H locs → ∀ (ls : Array Slot), lv_has ls 6 [(0, .ref (ad 100)), (2, .int x2), (3, .long y3), (5, .int x5)] → k18 y3 x5 M = some (rr, M') → W p l e ({ frames := 6, cells := 0, slots := 0, locals := 140 } : Room) s m args below meth c H locs 0 0 (MQ below (va_Ql (fun (x : Int64) (_ : Unit) => x = rr) (fun _ t => PA D cy ad 100 21 A M' t) A) args s 0 0 A) (F0 m 18 ls [])) {x5 : Int32} {u0 : Int64} {u1 : Int64} {H : Heap} {locs : List Loc} (hP : va_P D vwCl (pool cy ad 100 21 M) H) (hD : va_D A (pool cy ad 100 21 M)) (hS : va_S A s.heap H locs) {ls : Array Slot} (hl : lv_has ls 6 [(0, .ref (ad 100)), (2, .int x2), (5, .int x5)]) (h : b_X6_tracked_50 N x1 x2 k18 x5 u0 u1 M = some (rr, M')) : W p l e ({ frames := 6, cells := 0, slots := 0, locals := 140 } : Room) s m args below meth c H locs 0 0 (MQ below (va_Ql (fun (x : Int64) (_ : Unit) => x = rr) (fun _ t => PA D cy ad 100 21 A M' t) A) args s 0 0 A) (F0 m 50 ls [.long u1, .long u0]) := by
  obtain ⟨hx, hb, hml, hown, hts, hr, hlk, hK, hN, hA, hX⟩ := id C
  unfold b_X6_tracked_50 at h
  refine lv_lor hx hb dX6_tracked_50 ?_
  refine lv_lstore_n (lv' := [(3, .long (u0 ||| u1)), (0, .ref (ad 100)), (2, .int x2), (5, .int x5)]) hx hb dX6_tracked_51 rfl hl (by decide) rfl (fun ls hl => ?_)
  refine lv_iinc (v := (x5 + (1 : Int32))) (lv' := [(5, .int (x5 + (1 : Int32))), (3, .long (u0 ||| u1)), (0, .ref (ad 100)), (2, .int x2)]) hx hb dX6_tracked_52 hl (k := 3) rfl rfl (by decide) rfl (fun ls hl => ?_)
  refine lv_goto (tgt := 18) hx hb dX6_tracked_55 (by decide) ?_
  exact hk18 _ _ _ _ _ hP hD hS _ (lv_sub hl [2, 3, 1, 0] rfl) h
def b_X6_tracked_39 (N : Nat) (x1 : Int32) (x2 : Int32) (k18 : Int64 → Int32 → Mem → Option (Int64 × Mem)) (x5 : Int32) (u0 : Int64) (M : Mem) : Option (Int64 × Mem) := gd (inb x5 (len 119)) (b_X6_tracked_50 N x1 x2 k18 x5 u0 (AJ M 119 x5.toNatClampNeg) M)
set_option maxHeartbeats 4000000 in
set_option maxRecDepth 100000 in
theorem w_X6_tracked_39 (C : CX p s m args meth c cX6_tracked 6 (some .long) RX6 D cy ad zz 100 21 A) {N : Nat} {M : Mem} {x1 : Int32} {x2 : Int32} {k18 : Int64 → Int32 → Mem → Option (Int64 × Mem)} {rr : Int64} {M' : Mem} (hk18 : ∀ (y3 : Int64), ∀ (x5 : Int32), ∀ (M : Mem), ∀ (H : Heap) (locs : List Loc), va_P D vwCl (pool cy ad 100 21 M) H → va_D A (pool cy ad 100 21 M) → va_S A s.heap H locs → ∀ (ls : Array Slot), lv_has ls 6 [(0, .ref (ad 100)), (2, .int x2), (3, .long y3), (5, .int x5)] → k18 y3 x5 M = some (rr, M') → W p l e ({ frames := 6, cells := 0, slots := 0, locals := 140 } : Room) s m args below meth c H locs 0 0 (MQ below (va_Ql (fun (x : Int64) (_ : Unit) => x = rr) (fun _ t => PA D cy ad 100 21 A M' t) A) args s 0 0 A) (F0 m 18 ls [])) {x5 : Int32} {u0 : Int64} {H : Heap} {locs : List Loc} (hP : va_P D vwCl (pool cy ad 100 21 M) H) (hD : va_D A (pool cy ad 100 21 M)) (hS : va_S A s.heap H locs) {ls : Array Slot} (hl : lv_has ls 6 [(0, .ref (ad 100)), (2, .int x2), (5, .int x5)]) (h : b_X6_tracked_39 N x1 x2 k18 x5 u0 M = some (rr, M')) : W p l e ({ frames := 6, cells := 0, slots := 0, locals := 140 } : Room) s m args below meth c H locs 0 0 (MQ below (va_Ql (fun (x : Int64) (_ : Unit) => x = rr) (fun _ t => PA D cy ad 100 21 A M' t) A) args s 0 0 A) (F0 m 39 ls [.long u0]) := by
  obtain ⟨hx, hb, hml, hown, hts, hr, hlk, hK, hN, hA, hX⟩ := id C
  unfold b_X6_tracked_39 at h
  refine lv_aload_n hx hb dX6_tracked_39 rfl (lv_at hl 0 rfl) ?_
  refine gf_6_33 C hP (iL (by decide)) (by decide) wd_915 dX6_tracked_40 ?_
  refine lv_iload hx hb dX6_tracked_43 (lv_at hl 2 rfl) ?_
  obtain ⟨gi1, h⟩ := gd_of h
  refine la_ld C hP (iL (by decide)) (by decide) gi1 dX6_tracked_45 ?_
  refine lv_goto (tgt := 50) hx hb dX6_tracked_46 (by decide) ?_
  exact w_X6_tracked_50 C hk18 hP hD hS hl h
def b_X6_tracked_18 (N : Nat) (x1 : Int32) (x2 : Int32) : Nat → Int64 → Int32 → Mem → Option (Int64 × Mem)
  | 0, _, _, _ => none
  | fu + 1, y3, x5, M => (if (FI M 100 0) ≤ x5 then some (y3, M) else (if x2 = (-1 : Int32) then b_X6_tracked_39 N x1 x2 (b_X6_tracked_18 N x1 x2 fu) x5 y3 M else (if x2 = x5 then b_X6_tracked_39 N x1 x2 (b_X6_tracked_18 N x1 x2 fu) x5 y3 M else b_X6_tracked_50 N x1 x2 (b_X6_tracked_18 N x1 x2 fu) x5 y3 (0 : Int64) M)))
set_option maxHeartbeats 4000000 in
set_option maxRecDepth 100000 in
theorem w_X6_tracked_18 (C : CX p s m args meth c cX6_tracked 6 (some .long) RX6 D cy ad zz 100 21 A) {N : Nat} {x1 : Int32} {x2 : Int32} {rr : Int64} {M' : Mem}  : ∀ (fu : Nat), ∀ (y3 : Int64), ∀ (x5 : Int32), ∀ (M : Mem), ∀ (H : Heap) (locs : List Loc), va_P D vwCl (pool cy ad 100 21 M) H → va_D A (pool cy ad 100 21 M) → va_S A s.heap H locs → ∀ (ls : Array Slot), lv_has ls 6 [(0, .ref (ad 100)), (2, .int x2), (3, .long y3), (5, .int x5)] → b_X6_tracked_18 N x1 x2 fu y3 x5 M = some (rr, M') → W p l e ({ frames := 6, cells := 0, slots := 0, locals := 140 } : Room) s m args below meth c H locs 0 0 (MQ below (va_Ql (fun (x : Int64) (_ : Unit) => x = rr) (fun _ t => PA D cy ad 100 21 A M' t) A) args s 0 0 A) (F0 m 18 ls []) := by
  obtain ⟨hx, hb, hml, hown, hts, hr, hlk, hK, hN, hA, hX⟩ := id C
  intro fu
  induction fu with
  | zero =>
    intro y3 x5 M H locs hP hD hS ls hl h
    exact no_some (show none = some _ from h)
  | succ fu ih =>
    intro y3 x5 M H locs hP hD hS ls hl h
    rw [b_X6_tracked_18] at h
    refine lv_iload hx hb dX6_tracked_18 (lv_at hl 3 rfl) ?_
    refine lv_aload_n hx hb dX6_tracked_20 rfl (lv_at hl 0 rfl) ?_
    refine gf_6_0 C hP (iL (by decide)) (by decide) wd_882 dX6_tracked_21 ?_
    refine lv_icmp_ge (tgt := 58) hx hb dX6_tracked_24 (by decide) (fun c24 => ?_) (fun c24 => ?_)
    · replace h := it_t c24 h
      refine lv_lload_n hx hb dX6_tracked_58 rfl (lv_at hl 2 rfl) ?_
      exact rt_l (r := y3) C hP hD hS dX6_tracked_59 (rw_end h)
    · replace h := it_f c24 h
      refine lv_lload_n hx hb dX6_tracked_27 rfl (lv_at hl 2 rfl) ?_
      refine lv_iload_n hx hb dX6_tracked_28 rfl (lv_at hl 1 rfl) ?_
      refine lv_iconst (v := -1) hx hb dX6_tracked_29 (by decide) ?_
      refine lv_icmp_eq (tgt := 39) hx hb dX6_tracked_30 (by decide) (fun c30 => ?_) (fun c30 => ?_)
      · replace h := it_t c30 h
        exact w_X6_tracked_39 C ih hP hD hS (lv_sub hl [0, 1, 3] rfl) h
      · replace h := it_f c30 h
        refine lv_iload_n hx hb dX6_tracked_33 rfl (lv_at hl 1 rfl) ?_
        refine lv_iload hx hb dX6_tracked_34 (lv_at hl 3 rfl) ?_
        refine lv_icmp_ne (tgt := 49) hx hb dX6_tracked_36 (by decide) (fun c36 => ?_) (fun c36 => ?_)
        · replace h := it_f c36 h
          refine lv_lconst (v := 0) hx hb dX6_tracked_49 (by decide) ?_
          exact w_X6_tracked_50 C ih hP hD hS (lv_sub hl [0, 1, 3] rfl) h
        · replace h := it_t c36 h
          exact w_X6_tracked_39 C ih hP hD hS (lv_sub hl [0, 1, 3] rfl) h
def b_X6_tracked_0 (N : Nat) (x1 : Int32) (x2 : Int32) (M : Mem) : Option (Int64 × Mem) := (f_X6_keeps N M).bind fun M1 => (f_X6_goes N x1 M1).bind fun M6 => (f_X6_lays N M6).bind fun M10 => b_X6_tracked_18 N x1 x2 N (0 : Int64) (0 : Int32) M10
set_option maxHeartbeats 4000000 in
set_option maxRecDepth 100000 in
theorem w_X6_tracked_0 (C : CX p s m args meth c cX6_tracked 6 (some .long) RX6 D cy ad zz 100 21 A) {N : Nat} {M : Mem} {x1 : Int32} {x2 : Int32} {rr : Int64} {M' : Mem} {H : Heap} {locs : List Loc} (hP : va_P D vwCl (pool cy ad 100 21 M) H) (hD : va_D A (pool cy ad 100 21 M)) (hS : va_S A s.heap H locs) {ls : Array Slot} (hl : lv_has ls 6 [(0, .ref (ad 100)), (1, .int x1), (2, .int x2)]) (h : b_X6_tracked_0 N x1 x2 M = some (rr, M')) : W p l e ({ frames := 6, cells := 0, slots := 0, locals := 140 } : Room) s m args below meth c H locs 0 0 (MQ below (va_Ql (fun (x : Int64) (_ : Unit) => x = rr) (fun _ t => PA D cy ad 100 21 A M' t) A) args s 0 0 A) (F0 m 0 ls []) := by
  obtain ⟨hx, hb, hml, hown, hts, hr, hlk, hK, hN, hA, hX⟩ := id C
  unfold b_X6_tracked_0 at h
  refine lv_aload_n hx hb dX6_tracked_0 rfl (lv_at hl 0 rfl) ?_
  obtain ⟨M1, g1, h⟩ := bd_of h
  refine call_vV (As := []) (rest := []) C hP hD hS (c_X6_keeps g1) (iL (by decide)) ⟨6, _, _, ent_6 (by decide), rfl, rfl⟩ (gV wd_1104 wd_1106 wd_47 wd_75 wd_1107) ev_X6_keeps ⟨rfl, rfl⟩ ⟨Nat.le_of_ble_eq_true rfl, Nat.le_of_ble_eq_true rfl⟩ hl.1 rfl (Nat.le_of_ble_eq_true rfl) dX6_tracked_1 (fun H locs hP hD hS => ?_)
  refine lv_aload_n hx hb dX6_tracked_4 rfl (lv_at hl 0 rfl) ?_
  refine lv_iload_n hx hb dX6_tracked_5 rfl (lv_at hl 1 rfl) ?_
  obtain ⟨M6, g6, h⟩ := bd_of h
  refine call_vV (As := [.int x1]) (rest := []) C hP hD hS (c_X6_goes g6) (iL (by decide)) ⟨6, _, _, ent_6 (by decide), rfl, rfl⟩ (gV wd_1108 wd_1110 wd_48 wd_75 wd_1111) ev_X6_goes ⟨rfl, rfl⟩ ⟨Nat.le_of_ble_eq_true rfl, Nat.le_of_ble_eq_true rfl⟩ hl.1 rfl (Nat.le_of_ble_eq_true rfl) dX6_tracked_6 (fun H locs hP hD hS => ?_)
  refine lv_aload_n hx hb dX6_tracked_9 rfl (lv_at hl 0 rfl) ?_
  obtain ⟨M10, g10, h⟩ := bd_of h
  refine call_vV (As := []) (rest := []) C hP hD hS (c_X6_lays g10) (iL (by decide)) ⟨6, _, _, ent_6 (by decide), rfl, rfl⟩ (gV wd_1124 wd_1126 wd_52 wd_75 wd_1127) ev_X6_lays ⟨rfl, rfl⟩ ⟨Nat.le_of_ble_eq_true rfl, Nat.le_of_ble_eq_true rfl⟩ hl.1 rfl (Nat.le_of_ble_eq_true rfl) dX6_tracked_10 (fun H locs hP hD hS => ?_)
  refine lv_lconst (v := 0) hx hb dX6_tracked_13 (by decide) ?_
  refine lv_lstore_n (lv' := [(3, .long (0 : Int64)), (0, .ref (ad 100)), (1, .int x1), (2, .int x2)]) hx hb dX6_tracked_14 rfl hl (by decide) rfl (fun ls hl => ?_)
  refine lv_iconst (v := 0) hx hb dX6_tracked_15 (by decide) ?_
  refine lv_istore (lv' := [(5, .int (0 : Int32)), (3, .long (0 : Int64)), (0, .ref (ad 100)), (1, .int x1), (2, .int x2)]) hx hb dX6_tracked_16 hl (by decide) rfl (fun ls hl => ?_)
  exact w_X6_tracked_18 C N _ _ _ _ _ hP hD hS _ (lv_sub hl [2, 4, 1, 0] rfl) h
def f_X6_tracked (N : Nat) (x1 : Int32) (x2 : Int32) (M : Mem) : Option (Int64 × Mem) := b_X6_tracked_0 N x1 x2 M
theorem c_X6_tracked {l : Launch} {D : va_G} {cy : Nat → ClassId} {ad : Nat → Nat} {zz : (Nat → Nat) × (Nat → Nat)} {N : Nat} {x1 : Int32} {x2 : Int32} {M : Mem} {rr : Int64} {M' : Mem} (h : f_X6_tracked N x1 x2 M = some (rr, M')) : CTl l D cy ad zz 100 21 yX6_tracked (.code yX6_tracked cX6_tracked 6 (some .long) :: tb) ({ frames := 6, cells := 0, slots := 0, locals := 140 } : Room) [.ref (ad 100), .int x1, .int x2] M rr M' := by
  intro sz
  refine CX.of (by decide +kernel) (fun p e s m args below meth c H ls C hP hD hS hl => ?_) (Nat.le_of_ble_eq_true rfl)
  exact w_X6_tracked_0 C hP hD hS hl h
theorem ev_X6_tracked : yX6_tracked.cls = RX6 ∧ yX6_tracked.cls ≠ "java/lang/invoke/MethodHandle" ∧ yX6_tracked.cls ≠ "java/lang/invoke/VarHandle" ∧ (parseMethodDescriptor yX6_tracked.desc).map (fun d => d.parameters.length) = some 2 := by decide +kernel
end
