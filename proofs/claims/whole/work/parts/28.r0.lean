section
variable {p : Program} {l : Launch} {e : Env} {s : State} {m : MethodId} {args : Array Value} {below : List Frame} {meth : Method} {c : Code} {D : va_G} {cy : Nat → ClassId} {ad : Nat → Nat} {zz : (Nat → Nat) × (Nat → Nat)} {A : Nat → Prop}
def b_X0_byteAt_0 (M : Mem) (x1 : Int32) : Option (Int32) := (if x1 < 0 then some (0 : Int32) else (if (FI M 72 1) ≤ x1 then some (0 : Int32) else (if (nI (len 71)) ≤ x1 then some (0 : Int32) else gd (inb x1 (len 71)) (some (AI M 71 x1.toNatClampNeg)))))
set_option maxHeartbeats 4000000 in
set_option maxRecDepth 100000 in
theorem w_X0_byteAt_0 (C : CX p s m args meth c cX0_byteAt 2 (some .int) RX0 D cy ad zz 0 82 A) {M : Mem} {x1 : Int32} {rr : Int32} {H : Heap} {locs : List Loc} (hP : va_P D vwCl (pool cy ad 0 82 M) H) (hD : va_D A (pool cy ad 0 82 M)) (hS : va_S A s.heap H locs) {ls : Array Slot} (hl : lv_has ls 2 [(0, .ref (ad 72)), (1, .int x1)]) (h : b_X0_byteAt_0 M x1 = some rr) : W p l e ({ frames := 0, cells := 0, slots := 0, locals := 0 } : Room) s m args below meth c H locs 0 0 (MQ below (va_Qi (fun (x : Int32) (_ : Unit) => x = rr) (fun _ t => PA D cy ad 0 82 A M t) A) args s 0 0 A) (F0 m 0 ls []) := by
  obtain ⟨hx, hb, hml, hown, hts, hr, hlk, hK, hN, hA, hX⟩ := id C
  unfold b_X0_byteAt_0 at h
  refine lv_iload_n hx hb dX0_byteAt_0 rfl (lv_at hl 1 rfl) ?_
  refine lv_if_lt (tgt := 30) hx hb dX0_byteAt_1 (by decide) (fun c1 => ?_) (fun c1 => ?_)
  · replace h := it_t c1 h
    refine lv_iconst (v := 0) hx hb dX0_byteAt_30 (by decide) ?_
    exact rt_i (r := (0 : Int32)) C hP hD hS dX0_byteAt_31 ⟨Option.some.inj h, rfl⟩
  · replace h := it_f c1 h
    refine lv_iload_n hx hb dX0_byteAt_4 rfl (lv_at hl 1 rfl) ?_
    refine lv_aload_n hx hb dX0_byteAt_5 rfl (lv_at hl 0 rfl) ?_
    refine gf_0_1 C hP (iL (by decide)) (by decide) wd_269 dX0_byteAt_6 ?_
    refine lv_icmp_ge (tgt := 30) hx hb dX0_byteAt_9 (by decide) (fun c9 => ?_) (fun c9 => ?_)
    · replace h := it_t c9 h
      refine lv_iconst (v := 0) hx hb dX0_byteAt_30 (by decide) ?_
      exact rt_i (r := (0 : Int32)) C hP hD hS dX0_byteAt_31 ⟨Option.some.inj h, rfl⟩
    · replace h := it_f c9 h
      refine lv_iload_n hx hb dX0_byteAt_12 rfl (lv_at hl 1 rfl) ?_
      refine lv_aload_n hx hb dX0_byteAt_13 rfl (lv_at hl 0 rfl) ?_
      refine gf_0_0 C hP (iL (by decide)) (by decide) wd_268 dX0_byteAt_14 ?_
      refine al_7 C hP (iL (by decide)) (by decide) dX0_byteAt_17 ?_
      refine lv_icmp_ge (tgt := 30) hx hb dX0_byteAt_18 (by decide) (fun c18 => ?_) (fun c18 => ?_)
      · replace h := it_t c18 h
        refine lv_iconst (v := 0) hx hb dX0_byteAt_30 (by decide) ?_
        exact rt_i (r := (0 : Int32)) C hP hD hS dX0_byteAt_31 ⟨Option.some.inj h, rfl⟩
      · replace h := it_f c18 h
        refine lv_aload_n hx hb dX0_byteAt_21 rfl (lv_at hl 0 rfl) ?_
        refine gf_0_0 C hP (iL (by decide)) (by decide) wd_268 dX0_byteAt_22 ?_
        refine lv_iload_n hx hb dX0_byteAt_25 rfl (lv_at hl 1 rfl) ?_
        obtain ⟨gi1, h⟩ := gd_of h
        refine ia_ld C hP (iL (by decide)) (by decide) gi1 dX0_byteAt_26 ?_
        refine lv_goto (tgt := 31) hx hb dX0_byteAt_27 (by decide) ?_
        exact rt_i (r := (AI M 71 x1.toNatClampNeg)) C hP hD hS dX0_byteAt_31 ⟨Option.some.inj h, rfl⟩
def f_X0_byteAt (x1 : Int32) (M : Mem) : Option (Int32) := b_X0_byteAt_0 M x1
theorem c_X0_byteAt {l : Launch} {D : va_G} {cy : Nat → ClassId} {ad : Nat → Nat} {zz : (Nat → Nat) × (Nat → Nat)} {x1 : Int32} {M : Mem} {rr : Int32} (h : f_X0_byteAt x1 M = some rr) : CTi l D cy ad zz 0 82 yX0_byteAt (.code yX0_byteAt cX0_byteAt 2 (some .int) :: tb) ({ frames := 0, cells := 0, slots := 0, locals := 0 } : Room) [.ref (ad 72), .int x1] M rr M := by
  intro sz
  refine CX.of (by decide +kernel) (fun p e s m args below meth c H ls C hP hD hS hl => ?_) (Nat.le_of_ble_eq_true rfl)
  exact w_X0_byteAt_0 C hP hD hS hl h
theorem ev_X0_byteAt : yX0_byteAt.cls = RX0 ∧ yX0_byteAt.cls ≠ "java/lang/invoke/MethodHandle" ∧ yX0_byteAt.cls ≠ "java/lang/invoke/VarHandle" ∧ (parseMethodDescriptor yX0_byteAt.desc).map (fun d => d.parameters.length) = some 1 := by decide +kernel
def b_X0_isLetter_0 (M : Mem) (x0 : Int32) : Option (Bool) := (if x0 < (97 : Int32) then some false else (if (122 : Int32) < x0 then some false else some true))
set_option maxHeartbeats 4000000 in
set_option maxRecDepth 100000 in
theorem w_X0_isLetter_0 (C : CX p s m args meth c cX0_isLetter 1 (some .boolean) RX0 D cy ad zz 0 82 A) {M : Mem} {x0 : Int32} {rr : Bool} {H : Heap} {locs : List Loc} (hP : va_P D vwCl (pool cy ad 0 82 M) H) (hD : va_D A (pool cy ad 0 82 M)) (hS : va_S A s.heap H locs) {ls : Array Slot} (hl : lv_has ls 1 [(0, .int x0)]) (h : b_X0_isLetter_0 M x0 = some rr) : W p l e ({ frames := 0, cells := 0, slots := 0, locals := 0 } : Room) s m args below meth c H locs 0 0 (MQ below (va_Qi (fun (x : Int32) (_ : Unit) => x = b2i rr) (fun _ t => PA D cy ad 0 82 A M t) A) args s 0 0 A) (F0 m 0 ls []) := by
  obtain ⟨hx, hb, hml, hown, hts, hr, hlk, hK, hN, hA, hX⟩ := id C
  unfold b_X0_isLetter_0 at h
  refine lv_iload_n hx hb dX0_isLetter_0 rfl (lv_at hl 0 rfl) ?_
  refine lv_bipush (v := 97) hx hb dX0_isLetter_1 (by decide) ?_
  refine lv_icmp_lt (tgt := 16) hx hb dX0_isLetter_3 (by decide) (fun c3 => ?_) (fun c3 => ?_)
  · replace h := it_t c3 h
    refine lv_iconst (v := 0) hx hb dX0_isLetter_16 (by decide) ?_
    exact rt_z (r := false) C hP hD hS dX0_isLetter_17 ⟨Option.some.inj h, rfl⟩
  · replace h := it_f c3 h
    refine lv_iload_n hx hb dX0_isLetter_6 rfl (lv_at hl 0 rfl) ?_
    refine lv_bipush (v := 122) hx hb dX0_isLetter_7 (by decide) ?_
    refine lv_icmp_gt (tgt := 16) hx hb dX0_isLetter_9 (by decide) (fun c9 => ?_) (fun c9 => ?_)
    · replace h := it_t c9 h
      refine lv_iconst (v := 0) hx hb dX0_isLetter_16 (by decide) ?_
      exact rt_z (r := false) C hP hD hS dX0_isLetter_17 ⟨Option.some.inj h, rfl⟩
    · replace h := it_f c9 h
      refine lv_iconst (v := 1) hx hb dX0_isLetter_12 (by decide) ?_
      refine lv_goto (tgt := 17) hx hb dX0_isLetter_13 (by decide) ?_
      exact rt_z (r := true) C hP hD hS dX0_isLetter_17 ⟨Option.some.inj h, rfl⟩
def f_X0_isLetter (x0 : Int32) (M : Mem) : Option (Bool) := b_X0_isLetter_0 M x0
theorem c_X0_isLetter {l : Launch} {D : va_G} {cy : Nat → ClassId} {ad : Nat → Nat} {zz : (Nat → Nat) × (Nat → Nat)} {x0 : Int32} {M : Mem} {rr : Bool} (h : f_X0_isLetter x0 M = some rr) : CTi l D cy ad zz 0 82 yX0_isLetter (.code yX0_isLetter cX0_isLetter 1 (some .boolean) :: tb) ({ frames := 0, cells := 0, slots := 0, locals := 0 } : Room) [.int x0] M (b2i rr) M := by
  intro sz
  refine CX.of (by decide +kernel) (fun p e s m args below meth c H ls C hP hD hS hl => ?_) (Nat.le_of_ble_eq_true rfl)
  exact w_X0_isLetter_0 C hP hD hS hl h
theorem es_X0_isLetter : yX0_isLetter.cls ≠ "java/lang/invoke/MethodHandle" ∧ yX0_isLetter.cls ≠ "java/lang/invoke/VarHandle" ∧ (parseMethodDescriptor yX0_isLetter.desc).map (fun d => d.parameters.length) = some 1 := by decide +kernel
def b_X0_word_0 (M : Mem) (x0 : Int32) : Option (Nat) := (if x0 = 0 then some 0 else (if x0 = 1 then some 1 else (if x0 = 2 then some 2 else (if x0 = 3 then some 3 else (if x0 = 4 then some 4 else (if x0 = 5 then some 5 else (if x0 = 6 then some 6 else (if x0 = 7 then some 7 else (if x0 = 8 then some 8 else (if x0 = 9 then some 9 else (if x0 = 10 then some 10 else some 11)))))))))))
set_option maxHeartbeats 4000000 in
set_option maxRecDepth 100000 in
theorem w_X0_word_0 (C : CX p s m args meth c cX0_word 1 (some (.object "java/lang/String")) RX0 D cy ad zz 0 82 A) {M : Mem} {x0 : Int32} {rr : Nat} {H : Heap} {locs : List Loc} (hP : va_P D vwCl (pool cy ad 0 82 M) H) (hD : va_D A (pool cy ad 0 82 M)) (hS : va_S A s.heap H locs) {ls : Array Slot} (hl : lv_has ls 1 [(0, .int x0)]) (h : b_X0_word_0 M x0 = some rr) : W p l e ({ frames := 0, cells := 0, slots := 0, locals := 0 } : Room) s m args below meth c H locs 0 0 (MQ below (va_Qq (fun (x : Option Nat) (_ : Unit) => x = some (zz.1 rr)) (fun _ t => PA D cy ad 0 82 A M t) A) args s 0 0 A) (F0 m 0 ls []) := by
  obtain ⟨hx, hb, hml, hown, hts, hr, hlk, hK, hN, hA, hX⟩ := id C
  unfold b_X0_word_0 at h
  refine lv_iload_n hx hb dX0_word_0 rfl (lv_at hl 0 rfl) ?_
  by_cases c1_0 : x0 = 0
  · replace h := it_t c1_0 h
    refine lv_tableIn (off := 59) (tgt := 60) hx hb dX0_word_1 (by rw [c1_0]; decide) (by rw [c1_0]; decide) (by rw [c1_0]; rfl) (by decide) ?_
    refine va_ldcS hx hb hown (hX.2.2.2.2 0 (by decide)) dX0_word_60 ?_
    exact rt_s (r := 0) C hP hD hS dX0_word_62 ⟨Option.some.inj h, rfl⟩
  · replace h := it_f c1_0 h
    by_cases c1_1 : x0 = 1
    · replace h := it_t c1_1 h
      refine lv_tableIn (off := 62) (tgt := 63) hx hb dX0_word_1 (by rw [c1_1]; decide) (by rw [c1_1]; decide) (by rw [c1_1]; rfl) (by decide) ?_
      refine va_ldcS hx hb hown (hX.2.2.2.2 1 (by decide)) dX0_word_63 ?_
      exact rt_s (r := 1) C hP hD hS dX0_word_65 ⟨Option.some.inj h, rfl⟩
    · replace h := it_f c1_1 h
      by_cases c1_2 : x0 = 2
      · replace h := it_t c1_2 h
        refine lv_tableIn (off := 65) (tgt := 66) hx hb dX0_word_1 (by rw [c1_2]; decide) (by rw [c1_2]; decide) (by rw [c1_2]; rfl) (by decide) ?_
        refine va_ldcS hx hb hown (hX.2.2.2.2 2 (by decide)) dX0_word_66 ?_
        exact rt_s (r := 2) C hP hD hS dX0_word_68 ⟨Option.some.inj h, rfl⟩
      · replace h := it_f c1_2 h
        by_cases c1_3 : x0 = 3
        · replace h := it_t c1_3 h
          refine lv_tableIn (off := 68) (tgt := 69) hx hb dX0_word_1 (by rw [c1_3]; decide) (by rw [c1_3]; decide) (by rw [c1_3]; rfl) (by decide) ?_
          refine va_ldcS hx hb hown (hX.2.2.2.2 3 (by decide)) dX0_word_69 ?_
          exact rt_s (r := 3) C hP hD hS dX0_word_71 ⟨Option.some.inj h, rfl⟩
        · replace h := it_f c1_3 h
          by_cases c1_4 : x0 = 4
          · replace h := it_t c1_4 h
            refine lv_tableIn (off := 71) (tgt := 72) hx hb dX0_word_1 (by rw [c1_4]; decide) (by rw [c1_4]; decide) (by rw [c1_4]; rfl) (by decide) ?_
            refine va_ldcS hx hb hown (hX.2.2.2.2 4 (by decide)) dX0_word_72 ?_
            exact rt_s (r := 4) C hP hD hS dX0_word_74 ⟨Option.some.inj h, rfl⟩
          · replace h := it_f c1_4 h
            by_cases c1_5 : x0 = 5
            · replace h := it_t c1_5 h
              refine lv_tableIn (off := 74) (tgt := 75) hx hb dX0_word_1 (by rw [c1_5]; decide) (by rw [c1_5]; decide) (by rw [c1_5]; rfl) (by decide) ?_
              refine va_ldcS hx hb hown (hX.2.2.2.2 5 (by decide)) dX0_word_75 ?_
              exact rt_s (r := 5) C hP hD hS dX0_word_77 ⟨Option.some.inj h, rfl⟩
            · replace h := it_f c1_5 h
              by_cases c1_6 : x0 = 6
              · replace h := it_t c1_6 h
                refine lv_tableIn (off := 77) (tgt := 78) hx hb dX0_word_1 (by rw [c1_6]; decide) (by rw [c1_6]; decide) (by rw [c1_6]; rfl) (by decide) ?_
                refine va_ldcS hx hb hown (hX.2.2.2.2 6 (by decide)) dX0_word_78 ?_
                exact rt_s (r := 6) C hP hD hS dX0_word_80 ⟨Option.some.inj h, rfl⟩
              · replace h := it_f c1_6 h
                by_cases c1_7 : x0 = 7
                · replace h := it_t c1_7 h
                  refine lv_tableIn (off := 80) (tgt := 81) hx hb dX0_word_1 (by rw [c1_7]; decide) (by rw [c1_7]; decide) (by rw [c1_7]; rfl) (by decide) ?_
                  refine va_ldcS hx hb hown (hX.2.2.2.2 7 (by decide)) dX0_word_81 ?_
                  exact rt_s (r := 7) C hP hD hS dX0_word_83 ⟨Option.some.inj h, rfl⟩
                · replace h := it_f c1_7 h
                  by_cases c1_8 : x0 = 8
                  · replace h := it_t c1_8 h
                    refine lv_tableIn (off := 83) (tgt := 84) hx hb dX0_word_1 (by rw [c1_8]; decide) (by rw [c1_8]; decide) (by rw [c1_8]; rfl) (by decide) ?_
                    refine va_ldcS hx hb hown (hX.2.2.2.2 8 (by decide)) dX0_word_84 ?_
                    exact rt_s (r := 8) C hP hD hS dX0_word_86 ⟨Option.some.inj h, rfl⟩
                  · replace h := it_f c1_8 h
                    by_cases c1_9 : x0 = 9
                    · replace h := it_t c1_9 h
                      refine lv_tableIn (off := 86) (tgt := 87) hx hb dX0_word_1 (by rw [c1_9]; decide) (by rw [c1_9]; decide) (by rw [c1_9]; rfl) (by decide) ?_
                      refine va_ldcS hx hb hown (hX.2.2.2.2 9 (by decide)) dX0_word_87 ?_
                      exact rt_s (r := 9) C hP hD hS dX0_word_89 ⟨Option.some.inj h, rfl⟩
                    · replace h := it_f c1_9 h
                      by_cases c1_10 : x0 = 10
                      · replace h := it_t c1_10 h
                        refine lv_tableIn (off := 89) (tgt := 90) hx hb dX0_word_1 (by rw [c1_10]; decide) (by rw [c1_10]; decide) (by rw [c1_10]; rfl) (by decide) ?_
                        refine va_ldcS hx hb hown (hX.2.2.2.2 10 (by decide)) dX0_word_90 ?_
                        exact rt_s (r := 10) C hP hD hS dX0_word_92 ⟨Option.some.inj h, rfl⟩
                      · replace h := it_f c1_10 h
                        have e1_0 : x0.toInt ≠ 0 := fun q => c1_0 (Int32.toInt_inj.mp (q.trans (by decide)))
                        have e1_1 : x0.toInt ≠ 1 := fun q => c1_1 (Int32.toInt_inj.mp (q.trans (by decide)))
                        have e1_2 : x0.toInt ≠ 2 := fun q => c1_2 (Int32.toInt_inj.mp (q.trans (by decide)))
                        have e1_3 : x0.toInt ≠ 3 := fun q => c1_3 (Int32.toInt_inj.mp (q.trans (by decide)))
                        have e1_4 : x0.toInt ≠ 4 := fun q => c1_4 (Int32.toInt_inj.mp (q.trans (by decide)))
                        have e1_5 : x0.toInt ≠ 5 := fun q => c1_5 (Int32.toInt_inj.mp (q.trans (by decide)))
                        have e1_6 : x0.toInt ≠ 6 := fun q => c1_6 (Int32.toInt_inj.mp (q.trans (by decide)))
                        have e1_7 : x0.toInt ≠ 7 := fun q => c1_7 (Int32.toInt_inj.mp (q.trans (by decide)))
                        have e1_8 : x0.toInt ≠ 8 := fun q => c1_8 (Int32.toInt_inj.mp (q.trans (by decide)))
                        have e1_9 : x0.toInt ≠ 9 := fun q => c1_9 (Int32.toInt_inj.mp (q.trans (by decide)))
                        have e1_10 : x0.toInt ≠ 10 := fun q => c1_10 (Int32.toInt_inj.mp (q.trans (by decide)))
                        refine lv_tableOut (tgt := 93) hx hb dX0_word_1 (by omega) (by decide) ?_
                        refine va_ldcS hx hb hown (hX.2.2.2.2 11 (by decide)) dX0_word_93 ?_
                        exact rt_s (r := 11) C hP hD hS dX0_word_95 ⟨Option.some.inj h, rfl⟩
def f_X0_word (x0 : Int32) (M : Mem) : Option (Nat) := b_X0_word_0 M x0
theorem c_X0_word {l : Launch} {D : va_G} {cy : Nat → ClassId} {ad : Nat → Nat} {zz : (Nat → Nat) × (Nat → Nat)} {x0 : Int32} {M : Mem} {rr : Nat} (h : f_X0_word x0 M = some rr) : CTs l D cy ad zz 0 82 yX0_word (.code yX0_word cX0_word 1 (some (.object "java/lang/String")) :: tb) ({ frames := 0, cells := 0, slots := 0, locals := 0 } : Room) [.int x0] M rr M := by
  intro sz
  refine CX.of (by decide +kernel) (fun p e s m args below meth c H ls C hP hD hS hl => ?_) (Nat.le_of_ble_eq_true rfl)
  exact w_X0_word_0 C hP hD hS hl h
theorem es_X0_word : yX0_word.cls ≠ "java/lang/invoke/MethodHandle" ∧ yX0_word.cls ≠ "java/lang/invoke/VarHandle" ∧ (parseMethodDescriptor yX0_word.desc).map (fun d => d.parameters.length) = some 1 := by decide +kernel
def b_J0_coder_7d493_0 (M : Mem) (s0 : Nat) : Option (Int32) := (if (1 : Int32) = 0 then some (1 : Int32) else some (0 : Int32))
set_option maxHeartbeats 4000000 in
set_option maxRecDepth 100000 in
theorem w_J0_coder_7d493_0 (C : CX p s m args meth c cJ0_coder_7d493 1 (some .byte) RJ0 D cy ad zz 0 82 A) {M : Mem} {s0 : Nat} (hs_s0 : s0 < 13) {rr : Int32} {H : Heap} {locs : List Loc} (hP : va_P D vwCl (pool cy ad 0 82 M) H) (hD : va_D A (pool cy ad 0 82 M)) (hS : va_S A s.heap H locs) {ls : Array Slot} (hl : lv_has ls 1 [(0, .ref (zz.1 s0))]) (h : b_J0_coder_7d493_0 M s0 = some rr) : W p l e ({ frames := 0, cells := 0, slots := 0, locals := 0 } : Room) s m args below meth c H locs 0 0 (MQ below (va_Qi (fun (x : Int32) (_ : Unit) => x = rr) (fun _ t => PA D cy ad 0 82 A M t) A) args s 0 0 A) (F0 m 0 ls []) := by
  obtain ⟨hx, hb, hml, hown, hts, hr, hlk, hK, hN, hA, hX⟩ := id C
  unfold b_J0_coder_7d493_0 at h
  refine va_gets hx hb hX.2.1 hS hown (hts _ wd_219) (fun _ h => h) dJ0_coder_7d493_0 ?_
  refine lv_if_eq (tgt := 13) hx hb dJ0_coder_7d493_3 (by decide) (fun c3 => ?_) (fun c3 => ?_)
  · replace h := it_t c3 h
    refine lv_iconst (v := 1) hx hb dJ0_coder_7d493_13 (by decide) ?_
    exact rt_n (r := (1 : Int32)) C hP hD hS rfl dJ0_coder_7d493_14 ⟨Option.some.inj h, rfl⟩
  · replace h := it_f c3 h
    refine lv_aload_n hx hb dJ0_coder_7d493_6 rfl (lv_at hl 0 rfl) ?_
    refine vk_getf hx hb (hX.1.1 _ hs_s0).2.1 hS hown (hts _ wd_1280) (fun _ h => h) dJ0_coder_7d493_7 ?_
    refine lv_goto (tgt := 14) hx hb dJ0_coder_7d493_10 (by decide) ?_
    exact rt_n (r := (0 : Int32)) C hP hD hS rfl dJ0_coder_7d493_14 ⟨Option.some.inj h, rfl⟩
def f_J0_coder_7d493 (s0 : Nat) (M : Mem) : Option (Int32) := b_J0_coder_7d493_0 M s0
theorem c_J0_coder_7d493 {l : Launch} {D : va_G} {cy : Nat → ClassId} {ad : Nat → Nat} {zz : (Nat → Nat) × (Nat → Nat)} {s0 : Nat} (hs_s0 : s0 < 13) {M : Mem} {rr : Int32} (h : f_J0_coder_7d493 s0 M = some rr) : CTi l D cy ad zz 0 82 yJ0_coder_7d493 (.code yJ0_coder_7d493 cJ0_coder_7d493 1 (some .byte) :: tb) ({ frames := 0, cells := 0, slots := 0, locals := 0 } : Room) [.ref (zz.1 s0)] M rr M := by
  intro sz
  refine CX.of (by decide +kernel) (fun p e s m args below meth c H ls C hP hD hS hl => ?_) (Nat.le_of_ble_eq_true rfl)
  exact w_J0_coder_7d493_0 C hs_s0 hP hD hS hl h
theorem ev_J0_coder_7d493 : yJ0_coder_7d493.cls = RJ0 ∧ yJ0_coder_7d493.cls ≠ "java/lang/invoke/MethodHandle" ∧ yJ0_coder_7d493.cls ≠ "java/lang/invoke/VarHandle" ∧ (parseMethodDescriptor yJ0_coder_7d493.desc).map (fun d => d.parameters.length) = some 0 := by decide +kernel
def b_J0_length_8abf5_0 (M : Mem) (s0 : Nat) : Option (Int32) := (f_J0_coder_7d493 s0 M).bind fun r6 => some ((nI (zlen.getD s0 0)) >>> (r6 &&& 31))
set_option maxHeartbeats 4000000 in
set_option maxRecDepth 100000 in
theorem w_J0_length_8abf5_0 (C : CX p s m args meth c cJ0_length_8abf5 1 (some .int) RJ0 D cy ad zz 0 82 A) {M : Mem} {s0 : Nat} (hs_s0 : s0 < 13) {rr : Int32} {H : Heap} {locs : List Loc} (hP : va_P D vwCl (pool cy ad 0 82 M) H) (hD : va_D A (pool cy ad 0 82 M)) (hS : va_S A s.heap H locs) {ls : Array Slot} (hl : lv_has ls 1 [(0, .ref (zz.1 s0))]) (h : b_J0_length_8abf5_0 M s0 = some rr) : W p l e ({ frames := 1, cells := 0, slots := 0, locals := 20 } : Room) s m args below meth c H locs 0 0 (MQ below (va_Qi (fun (x : Int32) (_ : Unit) => x = rr) (fun _ t => PA D cy ad 0 82 A M t) A) args s 0 0 A) (F0 m 0 ls []) := by
  obtain ⟨hx, hb, hml, hown, hts, hr, hlk, hK, hN, hA, hX⟩ := id C
  unfold b_J0_length_8abf5_0 at h
  refine lv_aload_n hx hb dJ0_length_8abf5_0 rfl (lv_at hl 0 rfl) ?_
  refine vk_getf hx hb (hX.1.1 _ hs_s0).2.2.1 hS hown (hts _ wd_1279) (fun _ h => h) dJ0_length_8abf5_1 ?_
  refine va_tlen hx hb (hX.1.1 _ hs_s0).2.2.2 hS (v := nI (zlen.getD s0 0)) rfl dJ0_length_8abf5_4 ?_
  refine lv_aload_n hx hb dJ0_length_8abf5_5 rfl (lv_at hl 0 rfl) ?_
  obtain ⟨r6, g6, h⟩ := bd_of h
  refine call_iT (As := []) (rest := [.int (nI (zlen.getD s0 0))]) C hP hD hS (c_J0_coder_7d493 hs_s0 g6) (vk_recv hX.1 hs_s0 hS) (gV wd_215 wd_216 wd_217 wd_69 wd_218) ev_J0_coder_7d493 ⟨rfl, rfl⟩ ⟨Nat.le_of_ble_eq_true rfl, Nat.le_of_ble_eq_true rfl⟩ hl.1 rfl (Nat.le_of_ble_eq_true rfl) dJ0_length_8abf5_6 (fun H locs hP hD hS => ?_)
  refine lv_ishr hx hb dJ0_length_8abf5_9 ?_
  exact rt_i (r := ((nI (zlen.getD s0 0)) >>> (r6 &&& 31))) C hP hD hS dJ0_length_8abf5_10 ⟨Option.some.inj h, rfl⟩
def f_J0_length_8abf5 (s0 : Nat) (M : Mem) : Option (Int32) := b_J0_length_8abf5_0 M s0
theorem c_J0_length_8abf5 {l : Launch} {D : va_G} {cy : Nat → ClassId} {ad : Nat → Nat} {zz : (Nat → Nat) × (Nat → Nat)} {s0 : Nat} (hs_s0 : s0 < 13) {M : Mem} {rr : Int32} (h : f_J0_length_8abf5 s0 M = some rr) : CTi l D cy ad zz 0 82 yJ0_length_8abf5 (.code yJ0_length_8abf5 cJ0_length_8abf5 1 (some .int) :: tb) ({ frames := 1, cells := 0, slots := 0, locals := 20 } : Room) [.ref (zz.1 s0)] M rr M := by
  intro sz
  refine CX.of (by decide +kernel) (fun p e s m args below meth c H ls C hP hD hS hl => ?_) (Nat.le_of_ble_eq_true rfl)
  exact w_J0_length_8abf5_0 C hs_s0 hP hD hS hl h
theorem ev_J0_length_8abf5 : yJ0_length_8abf5.cls = RJ0 ∧ yJ0_length_8abf5.cls ≠ "java/lang/invoke/MethodHandle" ∧ yJ0_length_8abf5.cls ≠ "java/lang/invoke/VarHandle" ∧ (parseMethodDescriptor yJ0_length_8abf5.desc).map (fun d => d.parameters.length) = some 0 := by decide +kernel
def b_J0_isLatin1_aae02_0 (M : Mem) (s0 : Nat) : Option (Bool) := (if (1 : Int32) = 0 then some false else (if (0 : Int32) = 0 then some true else some false))
set_option maxHeartbeats 4000000 in
set_option maxRecDepth 100000 in
theorem w_J0_isLatin1_aae02_0 (C : CX p s m args meth c cJ0_isLatin1_aae02 1 (some .boolean) RJ0 D cy ad zz 0 82 A) {M : Mem} {s0 : Nat} (hs_s0 : s0 < 13) {rr : Bool} {H : Heap} {locs : List Loc} (hP : va_P D vwCl (pool cy ad 0 82 M) H) (hD : va_D A (pool cy ad 0 82 M)) (hS : va_S A s.heap H locs) {ls : Array Slot} (hl : lv_has ls 1 [(0, .ref (zz.1 s0))]) (h : b_J0_isLatin1_aae02_0 M s0 = some rr) : W p l e ({ frames := 0, cells := 0, slots := 0, locals := 0 } : Room) s m args below meth c H locs 0 0 (MQ below (va_Qi (fun (x : Int32) (_ : Unit) => x = b2i rr) (fun _ t => PA D cy ad 0 82 A M t) A) args s 0 0 A) (F0 m 0 ls []) := by
  obtain ⟨hx, hb, hml, hown, hts, hr, hlk, hK, hN, hA, hX⟩ := id C
  unfold b_J0_isLatin1_aae02_0 at h
  refine va_gets hx hb hX.2.1 hS hown (hts _ wd_219) (fun _ h => h) dJ0_isLatin1_aae02_0 ?_
  refine lv_if_eq (tgt := 17) hx hb dJ0_isLatin1_aae02_3 (by decide) (fun c3 => ?_) (fun c3 => ?_)
  · replace h := it_t c3 h
    refine lv_iconst (v := 0) hx hb dJ0_isLatin1_aae02_17 (by decide) ?_
    exact rt_z (r := false) C hP hD hS dJ0_isLatin1_aae02_18 ⟨Option.some.inj h, rfl⟩
  · replace h := it_f c3 h
    refine lv_aload_n hx hb dJ0_isLatin1_aae02_6 rfl (lv_at hl 0 rfl) ?_
    refine vk_getf hx hb (hX.1.1 _ hs_s0).2.1 hS hown (hts _ wd_1280) (fun _ h => h) dJ0_isLatin1_aae02_7 ?_
    refine lv_if_ne (tgt := 17) hx hb dJ0_isLatin1_aae02_10 (by decide) (fun c10 => ?_) (fun c10 => ?_)
    · replace h := it_f c10 h
      refine lv_iconst (v := 0) hx hb dJ0_isLatin1_aae02_17 (by decide) ?_
      exact rt_z (r := false) C hP hD hS dJ0_isLatin1_aae02_18 ⟨Option.some.inj h, rfl⟩
    · replace h := it_t c10 h
      refine lv_iconst (v := 1) hx hb dJ0_isLatin1_aae02_13 (by decide) ?_
      refine lv_goto (tgt := 18) hx hb dJ0_isLatin1_aae02_14 (by decide) ?_
      exact rt_z (r := true) C hP hD hS dJ0_isLatin1_aae02_18 ⟨Option.some.inj h, rfl⟩
def f_J0_isLatin1_aae02 (s0 : Nat) (M : Mem) : Option (Bool) := b_J0_isLatin1_aae02_0 M s0
theorem c_J0_isLatin1_aae02 {l : Launch} {D : va_G} {cy : Nat → ClassId} {ad : Nat → Nat} {zz : (Nat → Nat) × (Nat → Nat)} {s0 : Nat} (hs_s0 : s0 < 13) {M : Mem} {rr : Bool} (h : f_J0_isLatin1_aae02 s0 M = some rr) : CTi l D cy ad zz 0 82 yJ0_isLatin1_aae02 (.code yJ0_isLatin1_aae02 cJ0_isLatin1_aae02 1 (some .boolean) :: tb) ({ frames := 0, cells := 0, slots := 0, locals := 0 } : Room) [.ref (zz.1 s0)] M (b2i rr) M := by
  intro sz
  refine CX.of (by decide +kernel) (fun p e s m args below meth c H ls C hP hD hS hl => ?_) (Nat.le_of_ble_eq_true rfl)
  exact w_J0_isLatin1_aae02_0 C hs_s0 hP hD hS hl h
theorem ev_J0_isLatin1_aae02 : yJ0_isLatin1_aae02.cls = RJ0 ∧ yJ0_isLatin1_aae02.cls ≠ "java/lang/invoke/MethodHandle" ∧ yJ0_isLatin1_aae02.cls ≠ "java/lang/invoke/VarHandle" ∧ (parseMethodDescriptor yJ0_isLatin1_aae02.desc).map (fun d => d.parameters.length) = some 0 := by decide +kernel
def b_J3_checkIndex_8e157_9 (M : Mem) (x0 : Int32) (x1 : Int32) : Option (Int32) := none
set_option maxHeartbeats 4000000 in
set_option maxRecDepth 100000 in
theorem w_J3_checkIndex_8e157_9 (C : CX p s m args meth c cJ3_checkIndex_8e157 3 (some .int) RJ3 D cy ad zz 0 82 A) {M : Mem} {x0 : Int32} {x1 : Int32} {o2 : Option Nat} {rr : Int32} {H : Heap} {locs : List Loc} (hP : va_P D vwCl (pool cy ad 0 82 M) H) (hD : va_D A (pool cy ad 0 82 M)) (hS : va_S A s.heap H locs) {ls : Array Slot} (hl : lv_has ls 3 [(2, va_rf o2)]) (h : b_J3_checkIndex_8e157_9 M x0 x1 = some rr) : W p l e ({ frames := 0, cells := 0, slots := 0, locals := 0 } : Room) s m args below meth c H locs 0 0 (MQ below (va_Qi (fun (x : Int32) (_ : Unit) => x = rr) (fun _ t => PA D cy ad 0 82 A M t) A) args s 0 0 A) (F0 m 9 ls []) := by
  obtain ⟨hx, hb, hml, hown, hts, hr, hlk, hK, hN, hA, hX⟩ := id C
  unfold b_J3_checkIndex_8e157_9 at h
  exact no_some h
def b_J3_checkIndex_8e157_0 (M : Mem) (x0 : Int32) (x1 : Int32) : Option (Int32) := (if x0 < 0 then b_J3_checkIndex_8e157_9 M x0 x1 else (if x0 < x1 then some x0 else b_J3_checkIndex_8e157_9 M x0 x1))
set_option maxHeartbeats 4000000 in
set_option maxRecDepth 100000 in
theorem w_J3_checkIndex_8e157_0 (C : CX p s m args meth c cJ3_checkIndex_8e157 3 (some .int) RJ3 D cy ad zz 0 82 A) {M : Mem} {x0 : Int32} {x1 : Int32} {o2 : Option Nat} {rr : Int32} {H : Heap} {locs : List Loc} (hP : va_P D vwCl (pool cy ad 0 82 M) H) (hD : va_D A (pool cy ad 0 82 M)) (hS : va_S A s.heap H locs) {ls : Array Slot} (hl : lv_has ls 3 [(0, .int x0), (1, .int x1), (2, va_rf o2)]) (h : b_J3_checkIndex_8e157_0 M x0 x1 = some rr) : W p l e ({ frames := 0, cells := 0, slots := 0, locals := 0 } : Room) s m args below meth c H locs 0 0 (MQ below (va_Qi (fun (x : Int32) (_ : Unit) => x = rr) (fun _ t => PA D cy ad 0 82 A M t) A) args s 0 0 A) (F0 m 0 ls []) := by
  obtain ⟨hx, hb, hml, hown, hts, hr, hlk, hK, hN, hA, hX⟩ := id C
  unfold b_J3_checkIndex_8e157_0 at h
  refine lv_iload_n hx hb dJ3_checkIndex_8e157_0 rfl (lv_at hl 0 rfl) ?_
  refine lv_if_lt (tgt := 9) hx hb dJ3_checkIndex_8e157_1 (by decide) (fun c1 => ?_) (fun c1 => ?_)
  · replace h := it_t c1 h
    exact w_J3_checkIndex_8e157_9 C hP hD hS (lv_sub hl [2] rfl) h
  · replace h := it_f c1 h
    refine lv_iload_n hx hb dJ3_checkIndex_8e157_4 rfl (lv_at hl 0 rfl) ?_
    refine lv_iload_n hx hb dJ3_checkIndex_8e157_5 rfl (lv_at hl 1 rfl) ?_
    refine lv_icmp_lt (tgt := 16) hx hb dJ3_checkIndex_8e157_6 (by decide) (fun c6 => ?_) (fun c6 => ?_)
    · replace h := it_t c6 h
      refine lv_iload_n hx hb dJ3_checkIndex_8e157_16 rfl (lv_at hl 0 rfl) ?_
      exact rt_i (r := x0) C hP hD hS dJ3_checkIndex_8e157_17 ⟨Option.some.inj h, rfl⟩
    · replace h := it_f c6 h
      exact w_J3_checkIndex_8e157_9 C hP hD hS (lv_sub hl [2] rfl) h
def f_J3_checkIndex_8e157 (x0 : Int32) (x1 : Int32) (M : Mem) : Option (Int32) := b_J3_checkIndex_8e157_0 M x0 x1
theorem c_J3_checkIndex_8e157 {l : Launch} {D : va_G} {cy : Nat → ClassId} {ad : Nat → Nat} {zz : (Nat → Nat) × (Nat → Nat)} {x0 : Int32} {x1 : Int32} {o2 : Option Nat} {M : Mem} {rr : Int32} (h : f_J3_checkIndex_8e157 x0 x1 M = some rr) : CTi l D cy ad zz 0 82 yJ3_checkIndex_8e157 (.code yJ3_checkIndex_8e157 cJ3_checkIndex_8e157 3 (some .int) :: tb) ({ frames := 0, cells := 0, slots := 0, locals := 0 } : Room) [.int x0, .int x1, va_rf o2] M rr M := by
  intro sz
  refine CX.of (by decide +kernel) (fun p e s m args below meth c H ls C hP hD hS hl => ?_) (by cases o2 <;> exact Nat.le_of_ble_eq_true rfl)
  exact w_J3_checkIndex_8e157_0 C hP hD hS hl h
theorem es_J3_checkIndex_8e157 : yJ3_checkIndex_8e157.cls ≠ "java/lang/invoke/MethodHandle" ∧ yJ3_checkIndex_8e157.cls ≠ "java/lang/invoke/VarHandle" ∧ (parseMethodDescriptor yJ3_checkIndex_8e157.desc).map (fun d => d.parameters.length) = some 3 := by decide +kernel
def b_J0_checkIndex_df160_0 (M : Mem) (x0 : Int32) (x1 : Int32) : Option (Unit) := (f_J3_checkIndex_8e157 x0 x1 M).bind fun r5 => some ()
set_option maxHeartbeats 4000000 in
set_option maxRecDepth 100000 in
theorem w_J0_checkIndex_df160_0 (C : CX p s m args meth c cJ0_checkIndex_df160 2 none RJ0 D cy ad zz 0 82 A) {M : Mem} {x0 : Int32} {x1 : Int32}  {H : Heap} {locs : List Loc} (hP : va_P D vwCl (pool cy ad 0 82 M) H) (hD : va_D A (pool cy ad 0 82 M)) (hS : va_S A s.heap H locs) {ls : Array Slot} (hl : lv_has ls 2 [(0, .int x0), (1, .int x1)]) (h : b_J0_checkIndex_df160_0 M x0 x1 = some ()) : W p l e ({ frames := 1, cells := 0, slots := 0, locals := 22 } : Room) s m args below meth c H locs 0 0 (MQ below (va_Qv (fun (_ : Unit) => True) (fun _ t => PA D cy ad 0 82 A M t) A) args s 0 0 A) (F0 m 0 ls []) := by
  obtain ⟨hx, hb, hml, hown, hts, hr, hlk, hK, hN, hA, hX⟩ := id C
  unfold b_J0_checkIndex_df160_0 at h
  refine lv_iload_n hx hb dJ0_checkIndex_df160_0 rfl (lv_at hl 0 rfl) ?_
  refine lv_iload_n hx hb dJ0_checkIndex_df160_1 rfl (lv_at hl 1 rfl) ?_
  obtain ⟨o2, hz2⟩ := hX.zq
  refine va_gets hx hb hz2 hS hown (hts _ wd_238) (fun _ h => h) dJ0_checkIndex_df160_2 ?_
  obtain ⟨r5, g5, h⟩ := bd_of h
  refine call_iS (As := [.int x0, .int x1, va_rf o2]) (rest := []) C hP hD hS (c_J3_checkIndex_8e157 g5) (gS wd_240 wd_241 wd_72 wd_242) es_J3_checkIndex_8e157 ⟨rfl, rfl⟩ ⟨Nat.le_of_ble_eq_true rfl, Nat.le_of_ble_eq_true rfl⟩ hl.1 rfl (Nat.le_of_ble_eq_true rfl) dJ0_checkIndex_df160_5 (fun H locs hP hD hS => ?_)
  refine lv_pop hx hb dJ0_checkIndex_df160_8 rfl ?_
  exact rt_v C hP hD hS dJ0_checkIndex_df160_9 rfl
def f_J0_checkIndex_df160 (x0 : Int32) (x1 : Int32) (M : Mem) : Option (Unit) := b_J0_checkIndex_df160_0 M x0 x1
theorem c_J0_checkIndex_df160 {l : Launch} {D : va_G} {cy : Nat → ClassId} {ad : Nat → Nat} {zz : (Nat → Nat) × (Nat → Nat)} {x0 : Int32} {x1 : Int32} {M : Mem}  (h : f_J0_checkIndex_df160 x0 x1 M = some ()) : CTv l D cy ad zz 0 82 yJ0_checkIndex_df160 (.code yJ0_checkIndex_df160 cJ0_checkIndex_df160 2 none :: tb) ({ frames := 1, cells := 0, slots := 0, locals := 22 } : Room) [.int x0, .int x1] M M := by
  intro sz
  refine CX.of (by decide +kernel) (fun p e s m args below meth c H ls C hP hD hS hl => ?_) (Nat.le_of_ble_eq_true rfl)
  exact w_J0_checkIndex_df160_0 C hP hD hS hl h
theorem es_J0_checkIndex_df160 : yJ0_checkIndex_df160.cls ≠ "java/lang/invoke/MethodHandle" ∧ yJ0_checkIndex_df160.cls ≠ "java/lang/invoke/VarHandle" ∧ (parseMethodDescriptor yJ0_checkIndex_df160.desc).map (fun d => d.parameters.length) = some 2 := by decide +kernel
def b_J1_charAt_3b067_0 (M : Mem) (s0 : Nat) (x1 : Int32) : Option (Int32) := (f_J0_checkIndex_df160 x1 (nI (zlen.getD s0 0)) M).bind fun _ => gd (inb x1 (zlen.getD s0 0)) (some ((((((zbyt.getD s0 []).getD x1.toNatClampNeg 0) &&& (255 : Int32))).toUInt32 % 65536).toInt32))
set_option maxHeartbeats 4000000 in
set_option maxRecDepth 100000 in
theorem w_J1_charAt_3b067_0 (C : CX p s m args meth c cJ1_charAt_3b067 2 (some .char) RJ1 D cy ad zz 0 82 A) {M : Mem} {s0 : Nat} (hs_s0 : s0 < 13) {x1 : Int32} {rr : Int32} {H : Heap} {locs : List Loc} (hP : va_P D vwCl (pool cy ad 0 82 M) H) (hD : va_D A (pool cy ad 0 82 M)) (hS : va_S A s.heap H locs) {ls : Array Slot} (hl : lv_has ls 2 [(0, .ref (zz.2 s0)), (1, .int x1)]) (h : b_J1_charAt_3b067_0 M s0 x1 = some rr) : W p l e ({ frames := 2, cells := 0, slots := 0, locals := 43 } : Room) s m args below meth c H locs 0 0 (MQ below (va_Qi (fun (x : Int32) (_ : Unit) => x = rr) (fun _ t => PA D cy ad 0 82 A M t) A) args s 0 0 A) (F0 m 0 ls []) := by
  obtain ⟨hx, hb, hml, hown, hts, hr, hlk, hK, hN, hA, hX⟩ := id C
  unfold b_J1_charAt_3b067_0 at h
  refine lv_iload_n hx hb dJ1_charAt_3b067_0 rfl (lv_at hl 1 rfl) ?_
  refine lv_aload_n hx hb dJ1_charAt_3b067_1 rfl (lv_at hl 0 rfl) ?_
  refine va_tlen hx hb (hX.1.1 _ hs_s0).2.2.2 hS (v := nI (zlen.getD s0 0)) rfl dJ1_charAt_3b067_2 ?_
  obtain ⟨⟨⟩, g3, h⟩ := bd_of h
  refine call_vS (As := [.int x1, .int (nI (zlen.getD s0 0))]) (rest := []) C hP hD hS (c_J0_checkIndex_df160 g3) (gS wd_235 wd_236 wd_69 wd_237) es_J0_checkIndex_df160 ⟨rfl, rfl⟩ ⟨Nat.le_of_ble_eq_true rfl, Nat.le_of_ble_eq_true rfl⟩ hl.1 rfl (Nat.le_of_ble_eq_true rfl) dJ1_charAt_3b067_3 (fun H locs hP hD hS => ?_)
  refine lv_aload_n hx hb dJ1_charAt_3b067_6 rfl (lv_at hl 0 rfl) ?_
  refine lv_iload_n hx hb dJ1_charAt_3b067_7 rfl (lv_at hl 1 rfl) ?_
  obtain ⟨gi1, h⟩ := gd_of h
  refine va_tb hx hb (hX.1.1 _ hs_s0).2.2.2 hS (inb_in gi1) (v := .int ((zbyt.getD s0 []).getD x1.toNatClampNeg 0)) rfl dJ1_charAt_3b067_8 ?_
  refine lv_sipush (v := 255) hx hb dJ1_charAt_3b067_9 (by decide) ?_
  refine lv_iand hx hb dJ1_charAt_3b067_12 ?_
  refine lv_i2c (v := ((((((zbyt.getD s0 []).getD x1.toNatClampNeg 0) &&& (255 : Int32))).toUInt32 % 65536).toInt32)) hx hb dJ1_charAt_3b067_13 rfl ?_
  exact rt_n (r := ((((((zbyt.getD s0 []).getD x1.toNatClampNeg 0) &&& (255 : Int32))).toUInt32 % 65536).toInt32)) C hP hD hS (pk_nc _) dJ1_charAt_3b067_14 ⟨Option.some.inj h, rfl⟩
def f_J1_charAt_3b067 (s0 : Nat) (x1 : Int32) (M : Mem) : Option (Int32) := b_J1_charAt_3b067_0 M s0 x1
theorem c_J1_charAt_3b067 {l : Launch} {D : va_G} {cy : Nat → ClassId} {ad : Nat → Nat} {zz : (Nat → Nat) × (Nat → Nat)} {s0 : Nat} (hs_s0 : s0 < 13) {x1 : Int32} {M : Mem} {rr : Int32} (h : f_J1_charAt_3b067 s0 x1 M = some rr) : CTi l D cy ad zz 0 82 yJ1_charAt_3b067 (.code yJ1_charAt_3b067 cJ1_charAt_3b067 2 (some .char) :: tb) ({ frames := 2, cells := 0, slots := 0, locals := 43 } : Room) [.ref (zz.2 s0), .int x1] M rr M := by
  intro sz
  refine CX.of (by decide +kernel) (fun p e s m args below meth c H ls C hP hD hS hl => ?_) (Nat.le_of_ble_eq_true rfl)
  exact w_J1_charAt_3b067_0 C hs_s0 hP hD hS hl h
theorem es_J1_charAt_3b067 : yJ1_charAt_3b067.cls ≠ "java/lang/invoke/MethodHandle" ∧ yJ1_charAt_3b067.cls ≠ "java/lang/invoke/VarHandle" ∧ (parseMethodDescriptor yJ1_charAt_3b067.desc).map (fun d => d.parameters.length) = some 2 := by decide +kernel
def b_J0_charAt_5068e_0 (M : Mem) (s0 : Nat) (x1 : Int32) : Option (Int32) := (f_J0_isLatin1_aae02 s0 M).bind fun r1 => (if r1 = true then (f_J1_charAt_3b067 s0 x1 M).bind fun r12 => gd (isCh r12) (some r12) else none)
set_option maxHeartbeats 4000000 in
set_option maxRecDepth 100000 in
theorem w_J0_charAt_5068e_0 (C : CX p s m args meth c cJ0_charAt_5068e 2 (some .char) RJ0 D cy ad zz 0 82 A) {M : Mem} {s0 : Nat} (hs_s0 : s0 < 13) {x1 : Int32} {rr : Int32} {H : Heap} {locs : List Loc} (hP : va_P D vwCl (pool cy ad 0 82 M) H) (hD : va_D A (pool cy ad 0 82 M)) (hS : va_S A s.heap H locs) {ls : Array Slot} (hl : lv_has ls 2 [(0, .ref (zz.1 s0)), (1, .int x1)]) (h : b_J0_charAt_5068e_0 M s0 x1 = some rr) : W p l e ({ frames := 3, cells := 0, slots := 0, locals := 64 } : Room) s m args below meth c H locs 0 0 (MQ below (va_Qi (fun (x : Int32) (_ : Unit) => x = rr) (fun _ t => PA D cy ad 0 82 A M t) A) args s 0 0 A) (F0 m 0 ls []) := by
  obtain ⟨hx, hb, hml, hown, hts, hr, hlk, hK, hN, hA, hX⟩ := id C
  unfold b_J0_charAt_5068e_0 at h
  refine lv_aload_n hx hb dJ0_charAt_5068e_0 rfl (lv_at hl 0 rfl) ?_
  obtain ⟨r1, g1, h⟩ := bd_of h
  refine call_iT (As := []) (rest := []) C hP hD hS (c_J0_isLatin1_aae02 hs_s0 g1) (vk_recv hX.1 hs_s0 hS) (gV wd_228 wd_229 wd_230 wd_69 wd_231) ev_J0_isLatin1_aae02 ⟨rfl, rfl⟩ ⟨Nat.le_of_ble_eq_true rfl, Nat.le_of_ble_eq_true rfl⟩ hl.1 rfl (Nat.le_of_ble_eq_true rfl) dJ0_charAt_5068e_1 (fun H locs hP hD hS => ?_)
  refine lv_if_eq (tgt := 16) hx hb dJ0_charAt_5068e_4 (by decide) (fun c4 => ?_) (fun c4 => ?_)
  · replace h := it_f (b2i_n c4) h
    exact no_some h
  · replace h := it_t (b2i_1 c4) h
    refine lv_aload_n hx hb dJ0_charAt_5068e_7 rfl (lv_at hl 0 rfl) ?_
    refine vk_getf hx hb (hX.1.1 _ hs_s0).2.2.1 hS hown (hts _ wd_1279) (fun _ h => h) dJ0_charAt_5068e_8 ?_
    refine lv_iload_n hx hb dJ0_charAt_5068e_11 rfl (lv_at hl 1 rfl) ?_
    obtain ⟨r12, g12, h⟩ := bd_of h
    refine call_iS (As := [.ref (zz.2 s0), .int x1]) (rest := []) C hP hD hS (c_J1_charAt_3b067 hs_s0 g12) (gS wd_232 wd_233 wd_71 wd_234) es_J1_charAt_3b067 ⟨rfl, rfl⟩ ⟨Nat.le_of_ble_eq_true rfl, Nat.le_of_ble_eq_true rfl⟩ hl.1 rfl (Nat.le_of_ble_eq_true rfl) dJ0_charAt_5068e_12 (fun H locs hP hD hS => ?_)
    obtain ⟨gb1, h⟩ := gd_of h
    exact rt_n (r := r12) C hP hD hS (isCh_n gb1) dJ0_charAt_5068e_15 ⟨Option.some.inj h, rfl⟩
def f_J0_charAt_5068e (s0 : Nat) (x1 : Int32) (M : Mem) : Option (Int32) := b_J0_charAt_5068e_0 M s0 x1
theorem c_J0_charAt_5068e {l : Launch} {D : va_G} {cy : Nat → ClassId} {ad : Nat → Nat} {zz : (Nat → Nat) × (Nat → Nat)} {s0 : Nat} (hs_s0 : s0 < 13) {x1 : Int32} {M : Mem} {rr : Int32} (h : f_J0_charAt_5068e s0 x1 M = some rr) : CTi l D cy ad zz 0 82 yJ0_charAt_5068e (.code yJ0_charAt_5068e cJ0_charAt_5068e 2 (some .char) :: tb) ({ frames := 3, cells := 0, slots := 0, locals := 64 } : Room) [.ref (zz.1 s0), .int x1] M rr M := by
  intro sz
  refine CX.of (by decide +kernel) (fun p e s m args below meth c H ls C hP hD hS hl => ?_) (Nat.le_of_ble_eq_true rfl)
  exact w_J0_charAt_5068e_0 C hs_s0 hP hD hS hl h
theorem ev_J0_charAt_5068e : yJ0_charAt_5068e.cls = RJ0 ∧ yJ0_charAt_5068e.cls ≠ "java/lang/invoke/MethodHandle" ∧ yJ0_charAt_5068e.cls ≠ "java/lang/invoke/VarHandle" ∧ (parseMethodDescriptor yJ0_charAt_5068e.desc).map (fun d => d.parameters.length) = some 1 := by decide +kernel
def b_X0_isWord_20 (N : Nat) (M : Mem) (s1 : Nat) : Nat → Int32 → Option (Bool)
  | 0, _ => none
  | fu + 1, x2 => (f_J0_length_8abf5 s1 M).bind fun r22 => (if r22 ≤ x2 then some true else (f_X0_byteAt ((FI M 72 3) + x2) M).bind fun r35 => (f_J0_charAt_5068e s1 x2 M).bind fun r40 => (if r35 = r40 then b_X0_isWord_20 N M s1 fu (x2 + (1 : Int32)) else some false))
set_option maxHeartbeats 4000000 in
set_option maxRecDepth 100000 in
theorem w_X0_isWord_20 (C : CX p s m args meth c cX0_isWord 3 (some .boolean) RX0 D cy ad zz 0 82 A) {N : Nat} {M : Mem} {s1 : Nat} (hs_s1 : s1 < 13) {rr : Bool}  : ∀ (fu : Nat), ∀ (x2 : Int32), ∀ (H : Heap) (locs : List Loc), va_P D vwCl (pool cy ad 0 82 M) H → va_D A (pool cy ad 0 82 M) → va_S A s.heap H locs → ∀ (ls : Array Slot), lv_has ls 3 [(0, .ref (ad 72)), (1, .ref (zz.1 s1)), (2, .int x2)] → b_X0_isWord_20 N M s1 fu x2 = some rr → W p l e ({ frames := 4, cells := 0, slots := 0, locals := 85 } : Room) s m args below meth c H locs 0 0 (MQ below (va_Qi (fun (x : Int32) (_ : Unit) => x = b2i rr) (fun _ t => PA D cy ad 0 82 A M t) A) args s 0 0 A) (F0 m 20 ls []) := by
  obtain ⟨hx, hb, hml, hown, hts, hr, hlk, hK, hN, hA, hX⟩ := id C
  intro fu
  induction fu with
  | zero =>
    intro x2 H locs hP hD hS ls hl h
    exact no_some (show none = some _ from h)
  | succ fu ih =>
    intro x2 H locs hP hD hS ls hl h
    rw [b_X0_isWord_20] at h
    refine lv_iload_n hx hb dX0_isWord_20 rfl (lv_at hl 2 rfl) ?_
    refine lv_aload_n hx hb dX0_isWord_21 rfl (lv_at hl 1 rfl) ?_
    obtain ⟨r22, g22, h⟩ := bd_of h
    refine call_iT (As := []) (rest := [.int x2]) C hP hD hS (c_J0_length_8abf5 hs_s1 g22) (vk_recv hX.1 hs_s1 hS) (gV wd_330 wd_212 wd_213 wd_69 wd_214) ev_J0_length_8abf5 ⟨rfl, rfl⟩ ⟨Nat.le_of_ble_eq_true rfl, Nat.le_of_ble_eq_true rfl⟩ hl.1 rfl (Nat.le_of_ble_eq_true rfl) dX0_isWord_22 (fun H locs hP hD hS => ?_)
    refine lv_icmp_ge (tgt := 54) hx hb dX0_isWord_25 (by decide) (fun c25 => ?_) (fun c25 => ?_)
    · replace h := it_t c25 h
      refine lv_iconst (v := 1) hx hb dX0_isWord_54 (by decide) ?_
      exact rt_z (r := true) C hP hD hS dX0_isWord_55 ⟨Option.some.inj h, rfl⟩
    · replace h := it_f c25 h
      refine lv_aload_n hx hb dX0_isWord_28 rfl (lv_at hl 0 rfl) ?_
      refine lv_aload_n hx hb dX0_isWord_29 rfl (lv_at hl 0 rfl) ?_
      refine gf_0_3 C hP (iL (by decide)) (by decide) wd_271 dX0_isWord_30 ?_
      refine lv_iload_n hx hb dX0_isWord_33 rfl (lv_at hl 2 rfl) ?_
      refine lv_iadd hx hb dX0_isWord_34 ?_
      obtain ⟨r35, g35, h⟩ := bd_of h
      refine call_iV (As := [.int ((FI M 72 3) + x2)]) (rest := []) C hP hD hS (c_X0_byteAt g35) (iL (by decide)) ⟨0, _, _, ent_0 (by decide), rfl, rfl⟩ (gV wd_300 wd_302 wd_1 wd_74 wd_303) ev_X0_byteAt ⟨rfl, rfl⟩ ⟨Nat.le_of_ble_eq_true rfl, Nat.le_of_ble_eq_true rfl⟩ hl.1 rfl (Nat.le_of_ble_eq_true rfl) dX0_isWord_35 (fun H locs hP hD hS => ?_)
      refine lv_aload_n hx hb dX0_isWord_38 rfl (lv_at hl 1 rfl) ?_
      refine lv_iload_n hx hb dX0_isWord_39 rfl (lv_at hl 2 rfl) ?_
      obtain ⟨r40, g40, h⟩ := bd_of h
      refine call_iT (As := [.int x2]) (rest := [.int r35]) C hP hD hS (c_J0_charAt_5068e hs_s1 g40) (vk_recv hX.1 hs_s1 hS) (gV wd_331 wd_225 wd_226 wd_69 wd_227) ev_J0_charAt_5068e ⟨rfl, rfl⟩ ⟨Nat.le_of_ble_eq_true rfl, Nat.le_of_ble_eq_true rfl⟩ hl.1 rfl (Nat.le_of_ble_eq_true rfl) dX0_isWord_40 (fun H locs hP hD hS => ?_)
      refine lv_icmp_eq (tgt := 48) hx hb dX0_isWord_43 (by decide) (fun c43 => ?_) (fun c43 => ?_)
      · replace h := it_t c43 h
        refine lv_iinc (v := (x2 + (1 : Int32))) (lv' := [(2, .int (x2 + (1 : Int32))), (0, .ref (ad 72)), (1, .ref (zz.1 s1))]) hx hb dX0_isWord_48 hl (k := 2) rfl rfl (by decide) rfl (fun ls hl => ?_)
        refine lv_goto (tgt := 20) hx hb dX0_isWord_51 (by decide) ?_
        exact ih _ _ _ hP hD hS _ (lv_sub hl [1, 2, 0] rfl) h
      · replace h := it_f c43 h
        refine lv_iconst (v := 0) hx hb dX0_isWord_46 (by decide) ?_
        exact rt_z (r := false) C hP hD hS dX0_isWord_47 ⟨Option.some.inj h, rfl⟩
def b_X0_isWord_0 (N : Nat) (M : Mem) (s1 : Nat) : Option (Bool) := (f_J0_length_8abf5 s1 M).bind fun r10 => (if ((FI M 72 2) - (FI M 72 3)) = r10 then b_X0_isWord_20 N M s1 N (0 : Int32) else some false)
set_option maxHeartbeats 4000000 in
set_option maxRecDepth 100000 in
theorem w_X0_isWord_0 (C : CX p s m args meth c cX0_isWord 3 (some .boolean) RX0 D cy ad zz 0 82 A) {N : Nat} {M : Mem} {s1 : Nat} (hs_s1 : s1 < 13) {rr : Bool} {H : Heap} {locs : List Loc} (hP : va_P D vwCl (pool cy ad 0 82 M) H) (hD : va_D A (pool cy ad 0 82 M)) (hS : va_S A s.heap H locs) {ls : Array Slot} (hl : lv_has ls 3 [(0, .ref (ad 72)), (1, .ref (zz.1 s1))]) (h : b_X0_isWord_0 N M s1 = some rr) : W p l e ({ frames := 4, cells := 0, slots := 0, locals := 85 } : Room) s m args below meth c H locs 0 0 (MQ below (va_Qi (fun (x : Int32) (_ : Unit) => x = b2i rr) (fun _ t => PA D cy ad 0 82 A M t) A) args s 0 0 A) (F0 m 0 ls []) := by
  obtain ⟨hx, hb, hml, hown, hts, hr, hlk, hK, hN, hA, hX⟩ := id C
  unfold b_X0_isWord_0 at h
  refine lv_aload_n hx hb dX0_isWord_0 rfl (lv_at hl 0 rfl) ?_
  refine gf_0_2 C hP (iL (by decide)) (by decide) wd_270 dX0_isWord_1 ?_
  refine lv_aload_n hx hb dX0_isWord_4 rfl (lv_at hl 0 rfl) ?_
  refine gf_0_3 C hP (iL (by decide)) (by decide) wd_271 dX0_isWord_5 ?_
  refine lv_isub hx hb dX0_isWord_8 ?_
  refine lv_aload_n hx hb dX0_isWord_9 rfl (lv_at hl 1 rfl) ?_
  obtain ⟨r10, g10, h⟩ := bd_of h
  refine call_iT (As := []) (rest := [.int ((FI M 72 2) - (FI M 72 3))]) C hP hD hS (c_J0_length_8abf5 hs_s1 g10) (vk_recv hX.1 hs_s1 hS) (gV wd_330 wd_212 wd_213 wd_69 wd_214) ev_J0_length_8abf5 ⟨rfl, rfl⟩ ⟨Nat.le_of_ble_eq_true rfl, Nat.le_of_ble_eq_true rfl⟩ hl.1 rfl (Nat.le_of_ble_eq_true rfl) dX0_isWord_10 (fun H locs hP hD hS => ?_)
  refine lv_icmp_eq (tgt := 18) hx hb dX0_isWord_13 (by decide) (fun c13 => ?_) (fun c13 => ?_)
  · replace h := it_t c13 h
    refine lv_iconst (v := 0) hx hb dX0_isWord_18 (by decide) ?_
    refine lv_istore_n (lv' := [(2, .int (0 : Int32)), (0, .ref (ad 72)), (1, .ref (zz.1 s1))]) hx hb dX0_isWord_19 rfl hl (by decide) rfl (fun ls hl => ?_)
    exact w_X0_isWord_20 C hs_s1 N _ _ _ hP hD hS _ (lv_sub hl [1, 2, 0] rfl) h
  · replace h := it_f c13 h
    refine lv_iconst (v := 0) hx hb dX0_isWord_16 (by decide) ?_
    exact rt_z (r := false) C hP hD hS dX0_isWord_17 ⟨Option.some.inj h, rfl⟩
def f_X0_isWord (N : Nat) (s1 : Nat) (M : Mem) : Option (Bool) := b_X0_isWord_0 N M s1
theorem c_X0_isWord {l : Launch} {D : va_G} {cy : Nat → ClassId} {ad : Nat → Nat} {zz : (Nat → Nat) × (Nat → Nat)} {N : Nat} {s1 : Nat} (hs_s1 : s1 < 13) {M : Mem} {rr : Bool} (h : f_X0_isWord N s1 M = some rr) : CTi l D cy ad zz 0 82 yX0_isWord (.code yX0_isWord cX0_isWord 3 (some .boolean) :: tb) ({ frames := 4, cells := 0, slots := 0, locals := 85 } : Room) [.ref (ad 72), .ref (zz.1 s1)] M (b2i rr) M := by
  intro sz
  refine CX.of (by decide +kernel) (fun p e s m args below meth c H ls C hP hD hS hl => ?_) (Nat.le_of_ble_eq_true rfl)
  exact w_X0_isWord_0 C hs_s1 hP hD hS hl h
theorem ev_X0_isWord : yX0_isWord.cls = RX0 ∧ yX0_isWord.cls ≠ "java/lang/invoke/MethodHandle" ∧ yX0_isWord.cls ≠ "java/lang/invoke/VarHandle" ∧ (parseMethodDescriptor yX0_isWord.desc).map (fun d => d.parameters.length) = some 1 := by decide +kernel
def b_X0_takeWord_93 (N : Nat) (k47 : Int32 → Mem → Option (Mem)) (x1 : Int32) (M : Mem) : Option (Mem) := k47 (x1 + (1 : Int32)) M
set_option maxHeartbeats 4000000 in
set_option maxRecDepth 100000 in
theorem w_X0_takeWord_93 (C : CX p s m args meth c cX0_takeWord 2 none RX0 D cy ad zz 0 82 A) {N : Nat} {M : Mem} {k47 : Int32 → Mem → Option (Mem)} {M' : Mem} (hk47 : ∀ (x1 : Int32), ∀ (M : Mem), ∀ (H : Heap) (locs : List Loc), va_P D vwCl (pool cy ad 0 82 M) H → va_D A (pool cy ad 0 82 M) → va_S A s.heap H locs → ∀ (ls : Array Slot), lv_has ls 2 [(0, .ref (ad 72)), (1, .int x1)] → k47 x1 M = some M' → W p l e ({ frames := 5, cells := 0, slots := 0, locals := 107 } : Room) s m args below meth c H locs 0 0 (MQ below (va_Qv (fun (_ : Unit) => True) (fun _ t => PA D cy ad 0 82 A M' t) A) args s 0 0 A) (F0 m 47 ls [])) {x1 : Int32} {H : Heap} {locs : List Loc} (hP : va_P D vwCl (pool cy ad 0 82 M) H) (hD : va_D A (pool cy ad 0 82 M)) (hS : va_S A s.heap H locs) {ls : Array Slot} (hl : lv_has ls 2 [(0, .ref (ad 72)), (1, .int x1)]) (h : b_X0_takeWord_93 N k47 x1 M = some M') : W p l e ({ frames := 5, cells := 0, slots := 0, locals := 107 } : Room) s m args below meth c H locs 0 0 (MQ below (va_Qv (fun (_ : Unit) => True) (fun _ t => PA D cy ad 0 82 A M' t) A) args s 0 0 A) (F0 m 93 ls []) := by
  obtain ⟨hx, hb, hml, hown, hts, hr, hlk, hK, hN, hA, hX⟩ := id C
  unfold b_X0_takeWord_93 at h
  refine lv_iinc (v := (x1 + (1 : Int32))) (lv' := [(1, .int (x1 + (1 : Int32))), (0, .ref (ad 72))]) hx hb dX0_takeWord_93 hl (k := 1) rfl rfl (by decide) rfl (fun ls hl => ?_)
  refine lv_goto (tgt := 47) hx hb dX0_takeWord_96 (by decide) ?_
  exact hk47 _ _ _ _ hP hD hS _ (lv_sub hl [1, 0] rfl) h
def b_X0_takeWord_85 (N : Nat) (k47 : Int32 → Mem → Option (Mem)) (x1 : Int32) (M : Mem) : Option (Mem) := b_X0_takeWord_93 N k47 x1 (sFI M 72 5 (x1 - (6 : Int32)))
set_option maxHeartbeats 4000000 in
set_option maxRecDepth 100000 in
theorem w_X0_takeWord_85 (C : CX p s m args meth c cX0_takeWord 2 none RX0 D cy ad zz 0 82 A) {N : Nat} {M : Mem} {k47 : Int32 → Mem → Option (Mem)} {M' : Mem} (hk47 : ∀ (x1 : Int32), ∀ (M : Mem), ∀ (H : Heap) (locs : List Loc), va_P D vwCl (pool cy ad 0 82 M) H → va_D A (pool cy ad 0 82 M) → va_S A s.heap H locs → ∀ (ls : Array Slot), lv_has ls 2 [(0, .ref (ad 72)), (1, .int x1)] → k47 x1 M = some M' → W p l e ({ frames := 5, cells := 0, slots := 0, locals := 107 } : Room) s m args below meth c H locs 0 0 (MQ below (va_Qv (fun (_ : Unit) => True) (fun _ t => PA D cy ad 0 82 A M' t) A) args s 0 0 A) (F0 m 47 ls [])) {x1 : Int32} {H : Heap} {locs : List Loc} (hP : va_P D vwCl (pool cy ad 0 82 M) H) (hD : va_D A (pool cy ad 0 82 M)) (hS : va_S A s.heap H locs) {ls : Array Slot} (hl : lv_has ls 2 [(0, .ref (ad 72)), (1, .int x1)]) (h : b_X0_takeWord_85 N k47 x1 M = some M') : W p l e ({ frames := 5, cells := 0, slots := 0, locals := 107 } : Room) s m args below meth c H locs 0 0 (MQ below (va_Qv (fun (_ : Unit) => True) (fun _ t => PA D cy ad 0 82 A M' t) A) args s 0 0 A) (F0 m 85 ls []) := by
  obtain ⟨hx, hb, hml, hown, hts, hr, hlk, hK, hN, hA, hX⟩ := id C
  unfold b_X0_takeWord_85 at h
  refine lv_aload_n hx hb dX0_takeWord_85 rfl (lv_at hl 0 rfl) ?_
  refine lv_iload_n hx hb dX0_takeWord_86 rfl (lv_at hl 1 rfl) ?_
  refine lv_bipush (v := 6) hx hb dX0_takeWord_87 (by decide) ?_
  refine lv_isub hx hb dX0_takeWord_89 ?_
  refine pf_0_5 C hP hD hS (iL (by decide)) (by decide) wd_273 dX0_takeWord_90 (fun H locs hP hD hS => ?_)
  exact w_X0_takeWord_93 C hk47 hP hD hS hl h
def b_X0_takeWord_82 (N : Nat) (k47 : Int32 → Mem → Option (Mem)) (x1 : Int32) (t1 : Int32) (M : Mem) : Option (Mem) := b_X0_takeWord_85 N k47 x1 (sFI M 72 4 t1)
set_option maxHeartbeats 4000000 in
set_option maxRecDepth 100000 in
theorem w_X0_takeWord_82 (C : CX p s m args meth c cX0_takeWord 2 none RX0 D cy ad zz 0 82 A) {N : Nat} {M : Mem} {k47 : Int32 → Mem → Option (Mem)} {M' : Mem} (hk47 : ∀ (x1 : Int32), ∀ (M : Mem), ∀ (H : Heap) (locs : List Loc), va_P D vwCl (pool cy ad 0 82 M) H → va_D A (pool cy ad 0 82 M) → va_S A s.heap H locs → ∀ (ls : Array Slot), lv_has ls 2 [(0, .ref (ad 72)), (1, .int x1)] → k47 x1 M = some M' → W p l e ({ frames := 5, cells := 0, slots := 0, locals := 107 } : Room) s m args below meth c H locs 0 0 (MQ below (va_Qv (fun (_ : Unit) => True) (fun _ t => PA D cy ad 0 82 A M' t) A) args s 0 0 A) (F0 m 47 ls [])) {x1 : Int32} {t1 : Int32} {H : Heap} {locs : List Loc} (hP : va_P D vwCl (pool cy ad 0 82 M) H) (hD : va_D A (pool cy ad 0 82 M)) (hS : va_S A s.heap H locs) {ls : Array Slot} (hl : lv_has ls 2 [(0, .ref (ad 72)), (1, .int x1)]) (h : b_X0_takeWord_82 N k47 x1 t1 M = some M') : W p l e ({ frames := 5, cells := 0, slots := 0, locals := 107 } : Room) s m args below meth c H locs 0 0 (MQ below (va_Qv (fun (_ : Unit) => True) (fun _ t => PA D cy ad 0 82 A M' t) A) args s 0 0 A) (F0 m 82 ls [.int t1, .ref (ad 72)]) := by
  obtain ⟨hx, hb, hml, hown, hts, hr, hlk, hK, hN, hA, hX⟩ := id C
  unfold b_X0_takeWord_82 at h
  refine pf_0_4 C hP hD hS (iL (by decide)) (by decide) wd_272 dX0_takeWord_82 (fun H locs hP hD hS => ?_)
  exact w_X0_takeWord_85 C hk47 hP hD hS hl h
def b_X0_takeWord_47 (N : Nat) : Nat → Int32 → Mem → Option (Mem)
  | 0, _, _ => none
  | fu + 1, x1, M => (if (12 : Int32) ≤ x1 then some M else (f_X0_word x1 M).bind fun r55 => gd (decide (r55 < 13)) ((f_X0_isWord N r55 M).bind fun r58 => (if r58 = true then (if (6 : Int32) ≤ x1 then b_X0_takeWord_82 N (b_X0_takeWord_47 N fu) x1 (301 : Int32) M else b_X0_takeWord_82 N (b_X0_takeWord_47 N fu) x1 ((200 : Int32) + x1) M) else b_X0_takeWord_93 N (b_X0_takeWord_47 N fu) x1 M)))
set_option maxHeartbeats 4000000 in
set_option maxRecDepth 100000 in
theorem w_X0_takeWord_47 (C : CX p s m args meth c cX0_takeWord 2 none RX0 D cy ad zz 0 82 A) {N : Nat} {M' : Mem}  : ∀ (fu : Nat), ∀ (x1 : Int32), ∀ (M : Mem), ∀ (H : Heap) (locs : List Loc), va_P D vwCl (pool cy ad 0 82 M) H → va_D A (pool cy ad 0 82 M) → va_S A s.heap H locs → ∀ (ls : Array Slot), lv_has ls 2 [(0, .ref (ad 72)), (1, .int x1)] → b_X0_takeWord_47 N fu x1 M = some M' → W p l e ({ frames := 5, cells := 0, slots := 0, locals := 107 } : Room) s m args below meth c H locs 0 0 (MQ below (va_Qv (fun (_ : Unit) => True) (fun _ t => PA D cy ad 0 82 A M' t) A) args s 0 0 A) (F0 m 47 ls []) := by
  obtain ⟨hx, hb, hml, hown, hts, hr, hlk, hK, hN, hA, hX⟩ := id C
  intro fu
  induction fu with
  | zero =>
    intro x1 M H locs hP hD hS ls hl h
    exact no_some (show none = some _ from h)
  | succ fu ih =>
    intro x1 M H locs hP hD hS ls hl h
    rw [b_X0_takeWord_47] at h
    refine lv_iload_n hx hb dX0_takeWord_47 rfl (lv_at hl 1 rfl) ?_
    refine lv_bipush (v := 12) hx hb dX0_takeWord_48 (by decide) ?_
    refine lv_icmp_ge (tgt := 99) hx hb dX0_takeWord_50 (by decide) (fun c50 => ?_) (fun c50 => ?_)
    · replace h := it_t c50 h
      exact rt_v C hP hD hS dX0_takeWord_99 (Option.some.inj h)
    · replace h := it_f c50 h
      refine lv_aload_n hx hb dX0_takeWord_53 rfl (lv_at hl 0 rfl) ?_
      refine lv_iload_n hx hb dX0_takeWord_54 rfl (lv_at hl 1 rfl) ?_
      obtain ⟨r55, g55, h⟩ := bd_of h
      refine call_sS (As := [.int x1]) (rest := [.ref (ad 72)]) C hP hD hS (c_X0_word g55) (gS wd_311 wd_312 wd_74 wd_313) es_X0_word ⟨rfl, rfl⟩ ⟨Nat.le_of_ble_eq_true rfl, Nat.le_of_ble_eq_true rfl⟩ hl.1 rfl (Nat.le_of_ble_eq_true rfl) dX0_takeWord_55 (fun H locs hP hD hS => ?_)
      obtain ⟨gs1, h⟩ := gd_of h
      obtain ⟨r58, g58, h⟩ := bd_of h
      refine call_iV (As := [.ref (zz.1 r55)]) (rest := []) C hP hD hS (c_X0_isWord (of_decide_eq_true gs1) g58) (iL (by decide)) ⟨0, _, _, ent_0 (by decide), rfl, rfl⟩ (gV wd_326 wd_328 wd_3 wd_74 wd_329) ev_X0_isWord ⟨rfl, rfl⟩ ⟨Nat.le_of_ble_eq_true rfl, Nat.le_of_ble_eq_true rfl⟩ hl.1 rfl (Nat.le_of_ble_eq_true rfl) dX0_takeWord_58 (fun H locs hP hD hS => ?_)
      refine lv_if_eq (tgt := 93) hx hb dX0_takeWord_61 (by decide) (fun c61 => ?_) (fun c61 => ?_)
      · replace h := it_f (b2i_n c61) h
        exact w_X0_takeWord_93 C ih hP hD hS hl h
      · replace h := it_t (b2i_1 c61) h
        refine lv_aload_n hx hb dX0_takeWord_64 rfl (lv_at hl 0 rfl) ?_
        refine lv_iload_n hx hb dX0_takeWord_65 rfl (lv_at hl 1 rfl) ?_
        refine lv_bipush (v := 6) hx hb dX0_takeWord_66 (by decide) ?_
        refine lv_icmp_ge (tgt := 79) hx hb dX0_takeWord_68 (by decide) (fun c68 => ?_) (fun c68 => ?_)
        · replace h := it_t c68 h
          refine lv_sipush (v := 301) hx hb dX0_takeWord_79 (by decide) ?_
          exact w_X0_takeWord_82 C ih hP hD hS hl h
        · replace h := it_f c68 h
          refine lv_sipush (v := 200) hx hb dX0_takeWord_71 (by decide) ?_
          refine lv_iload_n hx hb dX0_takeWord_74 rfl (lv_at hl 1 rfl) ?_
          refine lv_iadd hx hb dX0_takeWord_75 ?_
          refine lv_goto (tgt := 82) hx hb dX0_takeWord_76 (by decide) ?_
          exact w_X0_takeWord_82 C ih hP hD hS hl h
def b_X0_takeWord_45 (N : Nat) (M : Mem) : Option (Mem) := b_X0_takeWord_47 N N (0 : Int32) M
set_option maxHeartbeats 4000000 in
set_option maxRecDepth 100000 in
theorem w_X0_takeWord_45 (C : CX p s m args meth c cX0_takeWord 2 none RX0 D cy ad zz 0 82 A) {N : Nat} {M : Mem} {M' : Mem} {H : Heap} {locs : List Loc} (hP : va_P D vwCl (pool cy ad 0 82 M) H) (hD : va_D A (pool cy ad 0 82 M)) (hS : va_S A s.heap H locs) {ls : Array Slot} (hl : lv_has ls 2 [(0, .ref (ad 72))]) (h : b_X0_takeWord_45 N M = some M') : W p l e ({ frames := 5, cells := 0, slots := 0, locals := 107 } : Room) s m args below meth c H locs 0 0 (MQ below (va_Qv (fun (_ : Unit) => True) (fun _ t => PA D cy ad 0 82 A M' t) A) args s 0 0 A) (F0 m 45 ls []) := by
  obtain ⟨hx, hb, hml, hown, hts, hr, hlk, hK, hN, hA, hX⟩ := id C
  unfold b_X0_takeWord_45 at h
  refine lv_iconst (v := 0) hx hb dX0_takeWord_45 (by decide) ?_
  refine lv_istore_n (lv' := [(1, .int (0 : Int32)), (0, .ref (ad 72))]) hx hb dX0_takeWord_46 rfl hl (by decide) rfl (fun ls hl => ?_)
  exact w_X0_takeWord_47 C N _ _ _ _ hP hD hS _ (lv_sub hl [1, 0] rfl) h
def b_X0_takeWord_38 (N : Nat) (M : Mem) : Option (Mem) := b_X0_takeWord_45 N (sFI M 72 4 (303 : Int32))
set_option maxHeartbeats 4000000 in
set_option maxRecDepth 100000 in
theorem w_X0_takeWord_38 (C : CX p s m args meth c cX0_takeWord 2 none RX0 D cy ad zz 0 82 A) {N : Nat} {M : Mem} {M' : Mem} {H : Heap} {locs : List Loc} (hP : va_P D vwCl (pool cy ad 0 82 M) H) (hD : va_D A (pool cy ad 0 82 M)) (hS : va_S A s.heap H locs) {ls : Array Slot} (hl : lv_has ls 2 [(0, .ref (ad 72))]) (h : b_X0_takeWord_38 N M = some M') : W p l e ({ frames := 5, cells := 0, slots := 0, locals := 107 } : Room) s m args below meth c H locs 0 0 (MQ below (va_Qv (fun (_ : Unit) => True) (fun _ t => PA D cy ad 0 82 A M' t) A) args s 0 0 A) (F0 m 38 ls []) := by
  obtain ⟨hx, hb, hml, hown, hts, hr, hlk, hK, hN, hA, hX⟩ := id C
  unfold b_X0_takeWord_38 at h
  refine lv_aload_n hx hb dX0_takeWord_38 rfl (lv_at hl 0 rfl) ?_
  refine lv_sipush (v := 303) hx hb dX0_takeWord_39 (by decide) ?_
  refine pf_0_4 C hP hD hS (iL (by decide)) (by decide) wd_272 dX0_takeWord_42 (fun H locs hP hD hS => ?_)
  exact w_X0_takeWord_45 C hP hD hS hl h
def b_X0_takeWord_35 (N : Nat) (k0 : Mem → Option (Mem)) (M : Mem) : Option (Mem) := k0 M
set_option maxHeartbeats 4000000 in
set_option maxRecDepth 100000 in
theorem w_X0_takeWord_35 (C : CX p s m args meth c cX0_takeWord 2 none RX0 D cy ad zz 0 82 A) {N : Nat} {M : Mem} {k0 : Mem → Option (Mem)} {M' : Mem} (hk0 : ∀ (M : Mem), ∀ (H : Heap) (locs : List Loc), va_P D vwCl (pool cy ad 0 82 M) H → va_D A (pool cy ad 0 82 M) → va_S A s.heap H locs → ∀ (ls : Array Slot), lv_has ls 2 [(0, .ref (ad 72))] → k0 M = some M' → W p l e ({ frames := 5, cells := 0, slots := 0, locals := 107 } : Room) s m args below meth c H locs 0 0 (MQ below (va_Qv (fun (_ : Unit) => True) (fun _ t => PA D cy ad 0 82 A M' t) A) args s 0 0 A) (F0 m 0 ls [])) {H : Heap} {locs : List Loc} (hP : va_P D vwCl (pool cy ad 0 82 M) H) (hD : va_D A (pool cy ad 0 82 M)) (hS : va_S A s.heap H locs) {ls : Array Slot} (hl : lv_has ls 2 [(0, .ref (ad 72))]) (h : b_X0_takeWord_35 N k0 M = some M') : W p l e ({ frames := 5, cells := 0, slots := 0, locals := 107 } : Room) s m args below meth c H locs 0 0 (MQ below (va_Qv (fun (_ : Unit) => True) (fun _ t => PA D cy ad 0 82 A M' t) A) args s 0 0 A) (F0 m 35 ls []) := by
  obtain ⟨hx, hb, hml, hown, hts, hr, hlk, hK, hN, hA, hX⟩ := id C
  unfold b_X0_takeWord_35 at h
  refine lv_goto (tgt := 0) hx hb dX0_takeWord_35 (by decide) ?_
  exact hk0 _ _ _ hP hD hS _ hl h
def b_X0_takeWord_0 (N : Nat) : Nat → Mem → Option (Mem)
  | 0, _ => none
  | fu + 1, M => (if (FI M 72 1) ≤ (FI M 72 2) then b_X0_takeWord_38 N M else (f_X0_byteAt (FI M 72 2) M).bind fun r16 => (f_X0_isLetter r16 M).bind fun r19 => (if r19 = true then b_X0_takeWord_35 N (b_X0_takeWord_0 N fu) (sFI M 72 2 ((FI M 72 2) + (1 : Int32))) else b_X0_takeWord_38 N M))
set_option maxHeartbeats 4000000 in
set_option maxRecDepth 100000 in
theorem w_X0_takeWord_0 (C : CX p s m args meth c cX0_takeWord 2 none RX0 D cy ad zz 0 82 A) {N : Nat} {M' : Mem}  : ∀ (fu : Nat), ∀ (M : Mem), ∀ (H : Heap) (locs : List Loc), va_P D vwCl (pool cy ad 0 82 M) H → va_D A (pool cy ad 0 82 M) → va_S A s.heap H locs → ∀ (ls : Array Slot), lv_has ls 2 [(0, .ref (ad 72))] → b_X0_takeWord_0 N fu M = some M' → W p l e ({ frames := 5, cells := 0, slots := 0, locals := 107 } : Room) s m args below meth c H locs 0 0 (MQ below (va_Qv (fun (_ : Unit) => True) (fun _ t => PA D cy ad 0 82 A M' t) A) args s 0 0 A) (F0 m 0 ls []) := by
  obtain ⟨hx, hb, hml, hown, hts, hr, hlk, hK, hN, hA, hX⟩ := id C
  intro fu
  induction fu with
  | zero =>
    intro M H locs hP hD hS ls hl h
    exact no_some (show none = some _ from h)
  | succ fu ih =>
    intro M H locs hP hD hS ls hl h
    rw [b_X0_takeWord_0] at h
    refine lv_aload_n hx hb dX0_takeWord_0 rfl (lv_at hl 0 rfl) ?_
    refine gf_0_2 C hP (iL (by decide)) (by decide) wd_270 dX0_takeWord_1 ?_
    refine lv_aload_n hx hb dX0_takeWord_4 rfl (lv_at hl 0 rfl) ?_
    refine gf_0_1 C hP (iL (by decide)) (by decide) wd_269 dX0_takeWord_5 ?_
    refine lv_icmp_ge (tgt := 38) hx hb dX0_takeWord_8 (by decide) (fun c8 => ?_) (fun c8 => ?_)
    · replace h := it_t c8 h
      exact w_X0_takeWord_38 C hP hD hS hl h
    · replace h := it_f c8 h
      refine lv_aload_n hx hb dX0_takeWord_11 rfl (lv_at hl 0 rfl) ?_
      refine lv_aload_n hx hb dX0_takeWord_12 rfl (lv_at hl 0 rfl) ?_
      refine gf_0_2 C hP (iL (by decide)) (by decide) wd_270 dX0_takeWord_13 ?_
      obtain ⟨r16, g16, h⟩ := bd_of h
      refine call_iV (As := [.int (FI M 72 2)]) (rest := []) C hP hD hS (c_X0_byteAt g16) (iL (by decide)) ⟨0, _, _, ent_0 (by decide), rfl, rfl⟩ (gV wd_300 wd_302 wd_1 wd_74 wd_303) ev_X0_byteAt ⟨rfl, rfl⟩ ⟨Nat.le_of_ble_eq_true rfl, Nat.le_of_ble_eq_true rfl⟩ hl.1 rfl (Nat.le_of_ble_eq_true rfl) dX0_takeWord_16 (fun H locs hP hD hS => ?_)
      obtain ⟨r19, g19, h⟩ := bd_of h
      refine call_iS (As := [.int r16]) (rest := []) C hP hD hS (c_X0_isLetter g19) (gS wd_304 wd_305 wd_74 wd_306) es_X0_isLetter ⟨rfl, rfl⟩ ⟨Nat.le_of_ble_eq_true rfl, Nat.le_of_ble_eq_true rfl⟩ hl.1 rfl (Nat.le_of_ble_eq_true rfl) dX0_takeWord_19 (fun H locs hP hD hS => ?_)
      refine lv_if_eq (tgt := 38) hx hb dX0_takeWord_22 (by decide) (fun c22 => ?_) (fun c22 => ?_)
      · replace h := it_f (b2i_n c22) h
        exact w_X0_takeWord_38 C hP hD hS hl h
      · replace h := it_t (b2i_1 c22) h
        refine lv_aload_n hx hb dX0_takeWord_25 rfl (lv_at hl 0 rfl) ?_
        refine lv_dup hx hb dX0_takeWord_26 rfl ?_
        refine gf_0_2 C hP (iL (by decide)) (by decide) wd_270 dX0_takeWord_27 ?_
        refine lv_iconst (v := 1) hx hb dX0_takeWord_30 (by decide) ?_
        refine lv_iadd hx hb dX0_takeWord_31 ?_
        refine pf_0_2 C hP hD hS (iL (by decide)) (by decide) wd_270 dX0_takeWord_32 (fun H locs hP hD hS => ?_)
        exact w_X0_takeWord_35 C ih hP hD hS hl h
def f_X0_takeWord (N : Nat) (M : Mem) : Option (Mem) := b_X0_takeWord_0 N N M
theorem c_X0_takeWord {l : Launch} {D : va_G} {cy : Nat → ClassId} {ad : Nat → Nat} {zz : (Nat → Nat) × (Nat → Nat)} {N : Nat} {M : Mem} {M' : Mem} (h : f_X0_takeWord N M = some M') : CTv l D cy ad zz 0 82 yX0_takeWord (.code yX0_takeWord cX0_takeWord 2 none :: tb) ({ frames := 5, cells := 0, slots := 0, locals := 107 } : Room) [.ref (ad 72)] M M' := by
  intro sz
  refine CX.of (by decide +kernel) (fun p e s m args below meth c H ls C hP hD hS hl => ?_) (Nat.le_of_ble_eq_true rfl)
  exact w_X0_takeWord_0 C N _ _ _ hP hD hS _ hl h
theorem ev_X0_takeWord : yX0_takeWord.cls = RX0 ∧ yX0_takeWord.cls ≠ "java/lang/invoke/MethodHandle" ∧ yX0_takeWord.cls ≠ "java/lang/invoke/VarHandle" ∧ (parseMethodDescriptor yX0_takeWord.desc).map (fun d => d.parameters.length) = some 0 := by decide +kernel
def b_X0_isDigit_0 (M : Mem) (x0 : Int32) : Option (Bool) := (if x0 < (48 : Int32) then some false else (if (57 : Int32) < x0 then some false else some true))
set_option maxHeartbeats 4000000 in
set_option maxRecDepth 100000 in
theorem w_X0_isDigit_0 (C : CX p s m args meth c cX0_isDigit 1 (some .boolean) RX0 D cy ad zz 0 82 A) {M : Mem} {x0 : Int32} {rr : Bool} {H : Heap} {locs : List Loc} (hP : va_P D vwCl (pool cy ad 0 82 M) H) (hD : va_D A (pool cy ad 0 82 M)) (hS : va_S A s.heap H locs) {ls : Array Slot} (hl : lv_has ls 1 [(0, .int x0)]) (h : b_X0_isDigit_0 M x0 = some rr) : W p l e ({ frames := 0, cells := 0, slots := 0, locals := 0 } : Room) s m args below meth c H locs 0 0 (MQ below (va_Qi (fun (x : Int32) (_ : Unit) => x = b2i rr) (fun _ t => PA D cy ad 0 82 A M t) A) args s 0 0 A) (F0 m 0 ls []) := by
  obtain ⟨hx, hb, hml, hown, hts, hr, hlk, hK, hN, hA, hX⟩ := id C
  unfold b_X0_isDigit_0 at h
  refine lv_iload_n hx hb dX0_isDigit_0 rfl (lv_at hl 0 rfl) ?_
  refine lv_bipush (v := 48) hx hb dX0_isDigit_1 (by decide) ?_
  refine lv_icmp_lt (tgt := 16) hx hb dX0_isDigit_3 (by decide) (fun c3 => ?_) (fun c3 => ?_)
  · replace h := it_t c3 h
    refine lv_iconst (v := 0) hx hb dX0_isDigit_16 (by decide) ?_
    exact rt_z (r := false) C hP hD hS dX0_isDigit_17 ⟨Option.some.inj h, rfl⟩
  · replace h := it_f c3 h
    refine lv_iload_n hx hb dX0_isDigit_6 rfl (lv_at hl 0 rfl) ?_
    refine lv_bipush (v := 57) hx hb dX0_isDigit_7 (by decide) ?_
    refine lv_icmp_gt (tgt := 16) hx hb dX0_isDigit_9 (by decide) (fun c9 => ?_) (fun c9 => ?_)
    · replace h := it_t c9 h
      refine lv_iconst (v := 0) hx hb dX0_isDigit_16 (by decide) ?_
      exact rt_z (r := false) C hP hD hS dX0_isDigit_17 ⟨Option.some.inj h, rfl⟩
    · replace h := it_f c9 h
      refine lv_iconst (v := 1) hx hb dX0_isDigit_12 (by decide) ?_
      refine lv_goto (tgt := 17) hx hb dX0_isDigit_13 (by decide) ?_
      exact rt_z (r := true) C hP hD hS dX0_isDigit_17 ⟨Option.some.inj h, rfl⟩
def f_X0_isDigit (x0 : Int32) (M : Mem) : Option (Bool) := b_X0_isDigit_0 M x0
theorem c_X0_isDigit {l : Launch} {D : va_G} {cy : Nat → ClassId} {ad : Nat → Nat} {zz : (Nat → Nat) × (Nat → Nat)} {x0 : Int32} {M : Mem} {rr : Bool} (h : f_X0_isDigit x0 M = some rr) : CTi l D cy ad zz 0 82 yX0_isDigit (.code yX0_isDigit cX0_isDigit 1 (some .boolean) :: tb) ({ frames := 0, cells := 0, slots := 0, locals := 0 } : Room) [.int x0] M (b2i rr) M := by
  intro sz
  refine CX.of (by decide +kernel) (fun p e s m args below meth c H ls C hP hD hS hl => ?_) (Nat.le_of_ble_eq_true rfl)
  exact w_X0_isDigit_0 C hP hD hS hl h
theorem es_X0_isDigit : yX0_isDigit.cls ≠ "java/lang/invoke/MethodHandle" ∧ yX0_isDigit.cls ≠ "java/lang/invoke/VarHandle" ∧ (parseMethodDescriptor yX0_isDigit.desc).map (fun d => d.parameters.length) = some 1 := by decide +kernel
def b_X0_takeNumber_89 (N : Nat) (t1 : Int32) (M : Mem) : Option (Mem) := some (sFI M 72 4 t1)
set_option maxHeartbeats 4000000 in
set_option maxRecDepth 100000 in
theorem w_X0_takeNumber_89 (C : CX p s m args meth c cX0_takeNumber 1 none RX0 D cy ad zz 0 82 A) {N : Nat} {M : Mem} {M' : Mem} {t1 : Int32} {H : Heap} {locs : List Loc} (hP : va_P D vwCl (pool cy ad 0 82 M) H) (hD : va_D A (pool cy ad 0 82 M)) (hS : va_S A s.heap H locs) {ls : Array Slot} (hl : lv_has ls 1 []) (h : b_X0_takeNumber_89 N t1 M = some M') : W p l e ({ frames := 1, cells := 0, slots := 0, locals := 21 } : Room) s m args below meth c H locs 0 0 (MQ below (va_Qv (fun (_ : Unit) => True) (fun _ t => PA D cy ad 0 82 A M' t) A) args s 0 0 A) (F0 m 89 ls [.int t1, .ref (ad 72)]) := by
  obtain ⟨hx, hb, hml, hown, hts, hr, hlk, hK, hN, hA, hX⟩ := id C
  unfold b_X0_takeNumber_89 at h
  refine pf_0_4 C hP hD hS (iL (by decide)) (by decide) wd_272 dX0_takeNumber_89 (fun H locs hP hD hS => ?_)
  exact rt_v C hP hD hS dX0_takeNumber_92 (Option.some.inj h)
def b_X0_takeNumber_66 (N : Nat) (M : Mem) : Option (Mem) := (if ((FI M 72 2) - (FI M 72 3)) ≤ (4 : Int32) then b_X0_takeNumber_89 N (300 : Int32) M else b_X0_takeNumber_89 N (303 : Int32) M)
set_option maxHeartbeats 4000000 in
set_option maxRecDepth 100000 in
theorem w_X0_takeNumber_66 (C : CX p s m args meth c cX0_takeNumber 1 none RX0 D cy ad zz 0 82 A) {N : Nat} {M : Mem} {M' : Mem} {H : Heap} {locs : List Loc} (hP : va_P D vwCl (pool cy ad 0 82 M) H) (hD : va_D A (pool cy ad 0 82 M)) (hS : va_S A s.heap H locs) {ls : Array Slot} (hl : lv_has ls 1 [(0, .ref (ad 72))]) (h : b_X0_takeNumber_66 N M = some M') : W p l e ({ frames := 1, cells := 0, slots := 0, locals := 21 } : Room) s m args below meth c H locs 0 0 (MQ below (va_Qv (fun (_ : Unit) => True) (fun _ t => PA D cy ad 0 82 A M' t) A) args s 0 0 A) (F0 m 66 ls []) := by
  obtain ⟨hx, hb, hml, hown, hts, hr, hlk, hK, hN, hA, hX⟩ := id C
  unfold b_X0_takeNumber_66 at h
  refine lv_aload_n hx hb dX0_takeNumber_66 rfl (lv_at hl 0 rfl) ?_
  refine lv_aload_n hx hb dX0_takeNumber_67 rfl (lv_at hl 0 rfl) ?_
  refine gf_0_2 C hP (iL (by decide)) (by decide) wd_270 dX0_takeNumber_68 ?_
  refine lv_aload_n hx hb dX0_takeNumber_71 rfl (lv_at hl 0 rfl) ?_
  refine gf_0_3 C hP (iL (by decide)) (by decide) wd_271 dX0_takeNumber_72 ?_
  refine lv_isub hx hb dX0_takeNumber_75 ?_
  refine lv_iconst (v := 4) hx hb dX0_takeNumber_76 (by decide) ?_
  refine lv_icmp_le (tgt := 86) hx hb dX0_takeNumber_77 (by decide) (fun c77 => ?_) (fun c77 => ?_)
  · replace h := it_t c77 h
    refine lv_sipush (v := 300) hx hb dX0_takeNumber_86 (by decide) ?_
    exact w_X0_takeNumber_89 C hP hD hS (lv_sub hl [] rfl) h
  · replace h := it_f c77 h
    refine lv_sipush (v := 303) hx hb dX0_takeNumber_80 (by decide) ?_
    refine lv_goto (tgt := 89) hx hb dX0_takeNumber_83 (by decide) ?_
    exact w_X0_takeNumber_89 C hP hD hS (lv_sub hl [] rfl) h
def b_X0_takeNumber_63 (N : Nat) (k5 : Mem → Option (Mem)) (M : Mem) : Option (Mem) := k5 M
set_option maxHeartbeats 4000000 in
set_option maxRecDepth 100000 in
theorem w_X0_takeNumber_63 (C : CX p s m args meth c cX0_takeNumber 1 none RX0 D cy ad zz 0 82 A) {N : Nat} {M : Mem} {k5 : Mem → Option (Mem)} {M' : Mem} (hk5 : ∀ (M : Mem), ∀ (H : Heap) (locs : List Loc), va_P D vwCl (pool cy ad 0 82 M) H → va_D A (pool cy ad 0 82 M) → va_S A s.heap H locs → ∀ (ls : Array Slot), lv_has ls 1 [(0, .ref (ad 72))] → k5 M = some M' → W p l e ({ frames := 1, cells := 0, slots := 0, locals := 21 } : Room) s m args below meth c H locs 0 0 (MQ below (va_Qv (fun (_ : Unit) => True) (fun _ t => PA D cy ad 0 82 A M' t) A) args s 0 0 A) (F0 m 5 ls [])) {H : Heap} {locs : List Loc} (hP : va_P D vwCl (pool cy ad 0 82 M) H) (hD : va_D A (pool cy ad 0 82 M)) (hS : va_S A s.heap H locs) {ls : Array Slot} (hl : lv_has ls 1 [(0, .ref (ad 72))]) (h : b_X0_takeNumber_63 N k5 M = some M') : W p l e ({ frames := 1, cells := 0, slots := 0, locals := 21 } : Room) s m args below meth c H locs 0 0 (MQ below (va_Qv (fun (_ : Unit) => True) (fun _ t => PA D cy ad 0 82 A M' t) A) args s 0 0 A) (F0 m 63 ls []) := by
  obtain ⟨hx, hb, hml, hown, hts, hr, hlk, hK, hN, hA, hX⟩ := id C
  unfold b_X0_takeNumber_63 at h
  refine lv_goto (tgt := 5) hx hb dX0_takeNumber_63 (by decide) ?_
  exact hk5 _ _ _ hP hD hS _ hl h
def b_X0_takeNumber_53 (N : Nat) (k5 : Mem → Option (Mem)) (M : Mem) : Option (Mem) := b_X0_takeNumber_63 N k5 (sFI M 72 2 ((FI M 72 2) + (1 : Int32)))
set_option maxHeartbeats 4000000 in
set_option maxRecDepth 100000 in
theorem w_X0_takeNumber_53 (C : CX p s m args meth c cX0_takeNumber 1 none RX0 D cy ad zz 0 82 A) {N : Nat} {M : Mem} {k5 : Mem → Option (Mem)} {M' : Mem} (hk5 : ∀ (M : Mem), ∀ (H : Heap) (locs : List Loc), va_P D vwCl (pool cy ad 0 82 M) H → va_D A (pool cy ad 0 82 M) → va_S A s.heap H locs → ∀ (ls : Array Slot), lv_has ls 1 [(0, .ref (ad 72))] → k5 M = some M' → W p l e ({ frames := 1, cells := 0, slots := 0, locals := 21 } : Room) s m args below meth c H locs 0 0 (MQ below (va_Qv (fun (_ : Unit) => True) (fun _ t => PA D cy ad 0 82 A M' t) A) args s 0 0 A) (F0 m 5 ls [])) {H : Heap} {locs : List Loc} (hP : va_P D vwCl (pool cy ad 0 82 M) H) (hD : va_D A (pool cy ad 0 82 M)) (hS : va_S A s.heap H locs) {ls : Array Slot} (hl : lv_has ls 1 [(0, .ref (ad 72))]) (h : b_X0_takeNumber_53 N k5 M = some M') : W p l e ({ frames := 1, cells := 0, slots := 0, locals := 21 } : Room) s m args below meth c H locs 0 0 (MQ below (va_Qv (fun (_ : Unit) => True) (fun _ t => PA D cy ad 0 82 A M' t) A) args s 0 0 A) (F0 m 53 ls []) := by
  obtain ⟨hx, hb, hml, hown, hts, hr, hlk, hK, hN, hA, hX⟩ := id C
  unfold b_X0_takeNumber_53 at h
  refine lv_aload_n hx hb dX0_takeNumber_53 rfl (lv_at hl 0 rfl) ?_
  refine lv_dup hx hb dX0_takeNumber_54 rfl ?_
  refine gf_0_2 C hP (iL (by decide)) (by decide) wd_270 dX0_takeNumber_55 ?_
  refine lv_iconst (v := 1) hx hb dX0_takeNumber_58 (by decide) ?_
  refine lv_iadd hx hb dX0_takeNumber_59 ?_
  refine pf_0_2 C hP hD hS (iL (by decide)) (by decide) wd_270 dX0_takeNumber_60 (fun H locs hP hD hS => ?_)
  exact w_X0_takeNumber_63 C hk5 hP hD hS hl h
def b_X0_takeNumber_5 (N : Nat) : Nat → Mem → Option (Mem)
  | 0, _ => none
  | fu + 1, M => (if (FI M 72 1) ≤ (FI M 72 2) then b_X0_takeNumber_66 N M else (f_X0_byteAt (FI M 72 2) M).bind fun r21 => (f_X0_isDigit r21 M).bind fun r24 => (if r24 = true then (f_X0_byteAt (FI M 72 2) M).bind fun r43 => b_X0_takeNumber_53 N (b_X0_takeNumber_5 N fu) (sFI M 72 5 ((((FI M 72 5) * (10 : Int32)) + r43) - (48 : Int32))) else b_X0_takeNumber_66 N M))
set_option maxHeartbeats 4000000 in
set_option maxRecDepth 100000 in
theorem w_X0_takeNumber_5 (C : CX p s m args meth c cX0_takeNumber 1 none RX0 D cy ad zz 0 82 A) {N : Nat} {M' : Mem}  : ∀ (fu : Nat), ∀ (M : Mem), ∀ (H : Heap) (locs : List Loc), va_P D vwCl (pool cy ad 0 82 M) H → va_D A (pool cy ad 0 82 M) → va_S A s.heap H locs → ∀ (ls : Array Slot), lv_has ls 1 [(0, .ref (ad 72))] → b_X0_takeNumber_5 N fu M = some M' → W p l e ({ frames := 1, cells := 0, slots := 0, locals := 21 } : Room) s m args below meth c H locs 0 0 (MQ below (va_Qv (fun (_ : Unit) => True) (fun _ t => PA D cy ad 0 82 A M' t) A) args s 0 0 A) (F0 m 5 ls []) := by
  obtain ⟨hx, hb, hml, hown, hts, hr, hlk, hK, hN, hA, hX⟩ := id C
  intro fu
  induction fu with
  | zero =>
    intro M H locs hP hD hS ls hl h
    exact no_some (show none = some _ from h)
  | succ fu ih =>
    intro M H locs hP hD hS ls hl h
    rw [b_X0_takeNumber_5] at h
    refine lv_aload_n hx hb dX0_takeNumber_5 rfl (lv_at hl 0 rfl) ?_
    refine gf_0_2 C hP (iL (by decide)) (by decide) wd_270 dX0_takeNumber_6 ?_
    refine lv_aload_n hx hb dX0_takeNumber_9 rfl (lv_at hl 0 rfl) ?_
    refine gf_0_1 C hP (iL (by decide)) (by decide) wd_269 dX0_takeNumber_10 ?_
    refine lv_icmp_ge (tgt := 66) hx hb dX0_takeNumber_13 (by decide) (fun c13 => ?_) (fun c13 => ?_)
    · replace h := it_t c13 h
      exact w_X0_takeNumber_66 C hP hD hS hl h
    · replace h := it_f c13 h
      refine lv_aload_n hx hb dX0_takeNumber_16 rfl (lv_at hl 0 rfl) ?_
      refine lv_aload_n hx hb dX0_takeNumber_17 rfl (lv_at hl 0 rfl) ?_
      refine gf_0_2 C hP (iL (by decide)) (by decide) wd_270 dX0_takeNumber_18 ?_
      obtain ⟨r21, g21, h⟩ := bd_of h
      refine call_iV (As := [.int (FI M 72 2)]) (rest := []) C hP hD hS (c_X0_byteAt g21) (iL (by decide)) ⟨0, _, _, ent_0 (by decide), rfl, rfl⟩ (gV wd_300 wd_302 wd_1 wd_74 wd_303) ev_X0_byteAt ⟨rfl, rfl⟩ ⟨Nat.le_of_ble_eq_true rfl, Nat.le_of_ble_eq_true rfl⟩ hl.1 rfl (Nat.le_of_ble_eq_true rfl) dX0_takeNumber_21 (fun H locs hP hD hS => ?_)
      obtain ⟨r24, g24, h⟩ := bd_of h
      refine call_iS (As := [.int r21]) (rest := []) C hP hD hS (c_X0_isDigit g24) (gS wd_332 wd_333 wd_74 wd_334) es_X0_isDigit ⟨rfl, rfl⟩ ⟨Nat.le_of_ble_eq_true rfl, Nat.le_of_ble_eq_true rfl⟩ hl.1 rfl (Nat.le_of_ble_eq_true rfl) dX0_takeNumber_24 (fun H locs hP hD hS => ?_)
      refine lv_if_eq (tgt := 66) hx hb dX0_takeNumber_27 (by decide) (fun c27 => ?_) (fun c27 => ?_)
      · replace h := it_f (b2i_n c27) h
        exact w_X0_takeNumber_66 C hP hD hS hl h
      · replace h := it_t (b2i_1 c27) h
        refine lv_aload_n hx hb dX0_takeNumber_30 rfl (lv_at hl 0 rfl) ?_
        refine lv_aload_n hx hb dX0_takeNumber_31 rfl (lv_at hl 0 rfl) ?_
        refine gf_0_5 C hP (iL (by decide)) (by decide) wd_273 dX0_takeNumber_32 ?_
        refine lv_bipush (v := 10) hx hb dX0_takeNumber_35 (by decide) ?_
        refine lv_imul hx hb dX0_takeNumber_37 ?_
        refine lv_aload_n hx hb dX0_takeNumber_38 rfl (lv_at hl 0 rfl) ?_
        refine lv_aload_n hx hb dX0_takeNumber_39 rfl (lv_at hl 0 rfl) ?_
        refine gf_0_2 C hP (iL (by decide)) (by decide) wd_270 dX0_takeNumber_40 ?_
        obtain ⟨r43, g43, h⟩ := bd_of h
        refine call_iV (As := [.int (FI M 72 2)]) (rest := [.int ((FI M 72 5) * (10 : Int32)), .ref (ad 72)]) C hP hD hS (c_X0_byteAt g43) (iL (by decide)) ⟨0, _, _, ent_0 (by decide), rfl, rfl⟩ (gV wd_300 wd_302 wd_1 wd_74 wd_303) ev_X0_byteAt ⟨rfl, rfl⟩ ⟨Nat.le_of_ble_eq_true rfl, Nat.le_of_ble_eq_true rfl⟩ hl.1 rfl (Nat.le_of_ble_eq_true rfl) dX0_takeNumber_43 (fun H locs hP hD hS => ?_)
        refine lv_iadd hx hb dX0_takeNumber_46 ?_
        refine lv_bipush (v := 48) hx hb dX0_takeNumber_47 (by decide) ?_
        refine lv_isub hx hb dX0_takeNumber_49 ?_
        refine pf_0_5 C hP hD hS (iL (by decide)) (by decide) wd_273 dX0_takeNumber_50 (fun H locs hP hD hS => ?_)
        exact w_X0_takeNumber_53 C ih hP hD hS hl h
def b_X0_takeNumber_0 (N : Nat) (M : Mem) : Option (Mem) := b_X0_takeNumber_5 N N (sFI M 72 5 (0 : Int32))
set_option maxHeartbeats 4000000 in
set_option maxRecDepth 100000 in
theorem w_X0_takeNumber_0 (C : CX p s m args meth c cX0_takeNumber 1 none RX0 D cy ad zz 0 82 A) {N : Nat} {M : Mem} {M' : Mem} {H : Heap} {locs : List Loc} (hP : va_P D vwCl (pool cy ad 0 82 M) H) (hD : va_D A (pool cy ad 0 82 M)) (hS : va_S A s.heap H locs) {ls : Array Slot} (hl : lv_has ls 1 [(0, .ref (ad 72))]) (h : b_X0_takeNumber_0 N M = some M') : W p l e ({ frames := 1, cells := 0, slots := 0, locals := 21 } : Room) s m args below meth c H locs 0 0 (MQ below (va_Qv (fun (_ : Unit) => True) (fun _ t => PA D cy ad 0 82 A M' t) A) args s 0 0 A) (F0 m 0 ls []) := by
  obtain ⟨hx, hb, hml, hown, hts, hr, hlk, hK, hN, hA, hX⟩ := id C
  unfold b_X0_takeNumber_0 at h
  refine lv_aload_n hx hb dX0_takeNumber_0 rfl (lv_at hl 0 rfl) ?_
  refine lv_iconst (v := 0) hx hb dX0_takeNumber_1 (by decide) ?_
  refine pf_0_5 C hP hD hS (iL (by decide)) (by decide) wd_273 dX0_takeNumber_2 (fun H locs hP hD hS => ?_)
  exact w_X0_takeNumber_5 C N _ _ _ hP hD hS _ hl h
def f_X0_takeNumber (N : Nat) (M : Mem) : Option (Mem) := b_X0_takeNumber_0 N M
theorem c_X0_takeNumber {l : Launch} {D : va_G} {cy : Nat → ClassId} {ad : Nat → Nat} {zz : (Nat → Nat) × (Nat → Nat)} {N : Nat} {M : Mem} {M' : Mem} (h : f_X0_takeNumber N M = some M') : CTv l D cy ad zz 0 82 yX0_takeNumber (.code yX0_takeNumber cX0_takeNumber 1 none :: tb) ({ frames := 1, cells := 0, slots := 0, locals := 21 } : Room) [.ref (ad 72)] M M' := by
  intro sz
  refine CX.of (by decide +kernel) (fun p e s m args below meth c H ls C hP hD hS hl => ?_) (Nat.le_of_ble_eq_true rfl)
  exact w_X0_takeNumber_0 C hP hD hS hl h
theorem ev_X0_takeNumber : yX0_takeNumber.cls = RX0 ∧ yX0_takeNumber.cls ≠ "java/lang/invoke/MethodHandle" ∧ yX0_takeNumber.cls ≠ "java/lang/invoke/VarHandle" ∧ (parseMethodDescriptor yX0_takeNumber.desc).map (fun d => d.parameters.length) = some 0 := by decide +kernel
def b_X0_isSign_0 (M : Mem) (x0 : Int32) : Option (Bool) := (if x0 = (40 : Int32) then some true else (if x0 = (41 : Int32) then some true else (if x0 = (59 : Int32) then some true else (if x0 = (43 : Int32) then some true else (if x0 = (45 : Int32) then some true else (if x0 = (42 : Int32) then some true else (if x0 = (60 : Int32) then some true else (if x0 = (61 : Int32) then some true else some false))))))))
set_option maxHeartbeats 4000000 in
set_option maxRecDepth 100000 in
theorem w_X0_isSign_0 (C : CX p s m args meth c cX0_isSign 1 (some .boolean) RX0 D cy ad zz 0 82 A) {M : Mem} {x0 : Int32} {rr : Bool} {H : Heap} {locs : List Loc} (hP : va_P D vwCl (pool cy ad 0 82 M) H) (hD : va_D A (pool cy ad 0 82 M)) (hS : va_S A s.heap H locs) {ls : Array Slot} (hl : lv_has ls 1 [(0, .int x0)]) (h : b_X0_isSign_0 M x0 = some rr) : W p l e ({ frames := 0, cells := 0, slots := 0, locals := 0 } : Room) s m args below meth c H locs 0 0 (MQ below (va_Qi (fun (x : Int32) (_ : Unit) => x = b2i rr) (fun _ t => PA D cy ad 0 82 A M t) A) args s 0 0 A) (F0 m 0 ls []) := by
  obtain ⟨hx, hb, hml, hown, hts, hr, hlk, hK, hN, hA, hX⟩ := id C
  unfold b_X0_isSign_0 at h
  refine lv_iload_n hx hb dX0_isSign_0 rfl (lv_at hl 0 rfl) ?_
  refine lv_bipush (v := 40) hx hb dX0_isSign_1 (by decide) ?_
  refine lv_icmp_eq (tgt := 48) hx hb dX0_isSign_3 (by decide) (fun c3 => ?_) (fun c3 => ?_)
  · replace h := it_t c3 h
    refine lv_iconst (v := 1) hx hb dX0_isSign_48 (by decide) ?_
    refine lv_goto (tgt := 53) hx hb dX0_isSign_49 (by decide) ?_
    exact rt_z (r := true) C hP hD hS dX0_isSign_53 ⟨Option.some.inj h, rfl⟩
  · replace h := it_f c3 h
    refine lv_iload_n hx hb dX0_isSign_6 rfl (lv_at hl 0 rfl) ?_
    refine lv_bipush (v := 41) hx hb dX0_isSign_7 (by decide) ?_
    refine lv_icmp_eq (tgt := 48) hx hb dX0_isSign_9 (by decide) (fun c9 => ?_) (fun c9 => ?_)
    · replace h := it_t c9 h
      refine lv_iconst (v := 1) hx hb dX0_isSign_48 (by decide) ?_
      refine lv_goto (tgt := 53) hx hb dX0_isSign_49 (by decide) ?_
      exact rt_z (r := true) C hP hD hS dX0_isSign_53 ⟨Option.some.inj h, rfl⟩
    · replace h := it_f c9 h
      refine lv_iload_n hx hb dX0_isSign_12 rfl (lv_at hl 0 rfl) ?_
      refine lv_bipush (v := 59) hx hb dX0_isSign_13 (by decide) ?_
      refine lv_icmp_eq (tgt := 48) hx hb dX0_isSign_15 (by decide) (fun c15 => ?_) (fun c15 => ?_)
      · replace h := it_t c15 h
        refine lv_iconst (v := 1) hx hb dX0_isSign_48 (by decide) ?_
        refine lv_goto (tgt := 53) hx hb dX0_isSign_49 (by decide) ?_
        exact rt_z (r := true) C hP hD hS dX0_isSign_53 ⟨Option.some.inj h, rfl⟩
      · replace h := it_f c15 h
        refine lv_iload_n hx hb dX0_isSign_18 rfl (lv_at hl 0 rfl) ?_
        refine lv_bipush (v := 43) hx hb dX0_isSign_19 (by decide) ?_
        refine lv_icmp_eq (tgt := 48) hx hb dX0_isSign_21 (by decide) (fun c21 => ?_) (fun c21 => ?_)
        · replace h := it_t c21 h
          refine lv_iconst (v := 1) hx hb dX0_isSign_48 (by decide) ?_
          refine lv_goto (tgt := 53) hx hb dX0_isSign_49 (by decide) ?_
          exact rt_z (r := true) C hP hD hS dX0_isSign_53 ⟨Option.some.inj h, rfl⟩
        · replace h := it_f c21 h
          refine lv_iload_n hx hb dX0_isSign_24 rfl (lv_at hl 0 rfl) ?_
          refine lv_bipush (v := 45) hx hb dX0_isSign_25 (by decide) ?_
          refine lv_icmp_eq (tgt := 48) hx hb dX0_isSign_27 (by decide) (fun c27 => ?_) (fun c27 => ?_)
          · replace h := it_t c27 h
            refine lv_iconst (v := 1) hx hb dX0_isSign_48 (by decide) ?_
            refine lv_goto (tgt := 53) hx hb dX0_isSign_49 (by decide) ?_
            exact rt_z (r := true) C hP hD hS dX0_isSign_53 ⟨Option.some.inj h, rfl⟩
          · replace h := it_f c27 h
            refine lv_iload_n hx hb dX0_isSign_30 rfl (lv_at hl 0 rfl) ?_
            refine lv_bipush (v := 42) hx hb dX0_isSign_31 (by decide) ?_
            refine lv_icmp_eq (tgt := 48) hx hb dX0_isSign_33 (by decide) (fun c33 => ?_) (fun c33 => ?_)
            · replace h := it_t c33 h
              refine lv_iconst (v := 1) hx hb dX0_isSign_48 (by decide) ?_
              refine lv_goto (tgt := 53) hx hb dX0_isSign_49 (by decide) ?_
              exact rt_z (r := true) C hP hD hS dX0_isSign_53 ⟨Option.some.inj h, rfl⟩
            · replace h := it_f c33 h
              refine lv_iload_n hx hb dX0_isSign_36 rfl (lv_at hl 0 rfl) ?_
              refine lv_bipush (v := 60) hx hb dX0_isSign_37 (by decide) ?_
              refine lv_icmp_eq (tgt := 48) hx hb dX0_isSign_39 (by decide) (fun c39 => ?_) (fun c39 => ?_)
              · replace h := it_t c39 h
                refine lv_iconst (v := 1) hx hb dX0_isSign_48 (by decide) ?_
                refine lv_goto (tgt := 53) hx hb dX0_isSign_49 (by decide) ?_
                exact rt_z (r := true) C hP hD hS dX0_isSign_53 ⟨Option.some.inj h, rfl⟩
              · replace h := it_f c39 h
                refine lv_iload_n hx hb dX0_isSign_42 rfl (lv_at hl 0 rfl) ?_
                refine lv_bipush (v := 61) hx hb dX0_isSign_43 (by decide) ?_
                refine lv_icmp_ne (tgt := 52) hx hb dX0_isSign_45 (by decide) (fun c45 => ?_) (fun c45 => ?_)
                · replace h := it_f c45 h
                  refine lv_iconst (v := 0) hx hb dX0_isSign_52 (by decide) ?_
                  exact rt_z (r := false) C hP hD hS dX0_isSign_53 ⟨Option.some.inj h, rfl⟩
                · replace h := it_t c45 h
                  refine lv_iconst (v := 1) hx hb dX0_isSign_48 (by decide) ?_
                  refine lv_goto (tgt := 53) hx hb dX0_isSign_49 (by decide) ?_
                  exact rt_z (r := true) C hP hD hS dX0_isSign_53 ⟨Option.some.inj h, rfl⟩
def f_X0_isSign (x0 : Int32) (M : Mem) : Option (Bool) := b_X0_isSign_0 M x0
theorem c_X0_isSign {l : Launch} {D : va_G} {cy : Nat → ClassId} {ad : Nat → Nat} {zz : (Nat → Nat) × (Nat → Nat)} {x0 : Int32} {M : Mem} {rr : Bool} (h : f_X0_isSign x0 M = some rr) : CTi l D cy ad zz 0 82 yX0_isSign (.code yX0_isSign cX0_isSign 1 (some .boolean) :: tb) ({ frames := 0, cells := 0, slots := 0, locals := 0 } : Room) [.int x0] M (b2i rr) M := by
  intro sz
  refine CX.of (by decide +kernel) (fun p e s m args below meth c H ls C hP hD hS hl => ?_) (Nat.le_of_ble_eq_true rfl)
  exact w_X0_isSign_0 C hP hD hS hl h
theorem es_X0_isSign : yX0_isSign.cls ≠ "java/lang/invoke/MethodHandle" ∧ yX0_isSign.cls ≠ "java/lang/invoke/VarHandle" ∧ (parseMethodDescriptor yX0_isSign.desc).map (fun d => d.parameters.length) = some 1 := by decide +kernel
def b_X0_advance_139 (N : Nat) (t1 : Int32) (M : Mem) : Option (Mem) := some (sFI M 72 4 t1)
set_option maxHeartbeats 4000000 in
set_option maxRecDepth 100000 in
theorem w_X0_advance_139 (C : CX p s m args meth c cX0_advance 2 none RX0 D cy ad zz 0 82 A) {N : Nat} {M : Mem} {M' : Mem} {t1 : Int32} {H : Heap} {locs : List Loc} (hP : va_P D vwCl (pool cy ad 0 82 M) H) (hD : va_D A (pool cy ad 0 82 M)) (hS : va_S A s.heap H locs) {ls : Array Slot} (hl : lv_has ls 2 []) (h : b_X0_advance_139 N t1 M = some M') : W p l e ({ frames := 6, cells := 0, slots := 0, locals := 128 } : Room) s m args below meth c H locs 0 0 (MQ below (va_Qv (fun (_ : Unit) => True) (fun _ t => PA D cy ad 0 82 A M' t) A) args s 0 0 A) (F0 m 139 ls [.int t1, .ref (ad 72)]) := by
  obtain ⟨hx, hb, hml, hown, hts, hr, hlk, hK, hN, hA, hX⟩ := id C
  unfold b_X0_advance_139 at h
  refine pf_0_4 C hP hD hS (iL (by decide)) (by decide) wd_272 dX0_advance_139 (fun H locs hP hD hS => ?_)
  exact rt_v C hP hD hS dX0_advance_142 (Option.some.inj h)
def b_X0_advance_124 (N : Nat) (x1 : Int32) (M : Mem) : Option (Mem) := (f_X0_isSign x1 M).bind fun r126 => (if r126 = true then b_X0_advance_139 N x1 M else b_X0_advance_139 N (303 : Int32) M)
set_option maxHeartbeats 4000000 in
set_option maxRecDepth 100000 in
theorem w_X0_advance_124 (C : CX p s m args meth c cX0_advance 2 none RX0 D cy ad zz 0 82 A) {N : Nat} {M : Mem} {M' : Mem} {x1 : Int32} {H : Heap} {locs : List Loc} (hP : va_P D vwCl (pool cy ad 0 82 M) H) (hD : va_D A (pool cy ad 0 82 M)) (hS : va_S A s.heap H locs) {ls : Array Slot} (hl : lv_has ls 2 [(0, .ref (ad 72)), (1, .int x1)]) (h : b_X0_advance_124 N x1 M = some M') : W p l e ({ frames := 6, cells := 0, slots := 0, locals := 128 } : Room) s m args below meth c H locs 0 0 (MQ below (va_Qv (fun (_ : Unit) => True) (fun _ t => PA D cy ad 0 82 A M' t) A) args s 0 0 A) (F0 m 124 ls []) := by
  obtain ⟨hx, hb, hml, hown, hts, hr, hlk, hK, hN, hA, hX⟩ := id C
  unfold b_X0_advance_124 at h
  refine lv_aload_n hx hb dX0_advance_124 rfl (lv_at hl 0 rfl) ?_
  refine lv_iload_n hx hb dX0_advance_125 rfl (lv_at hl 1 rfl) ?_
  obtain ⟨r126, g126, h⟩ := bd_of h
  refine call_iS (As := [.int x1]) (rest := [.ref (ad 72)]) C hP hD hS (c_X0_isSign g126) (gS wd_339 wd_340 wd_74 wd_341) es_X0_isSign ⟨rfl, rfl⟩ ⟨Nat.le_of_ble_eq_true rfl, Nat.le_of_ble_eq_true rfl⟩ hl.1 rfl (Nat.le_of_ble_eq_true rfl) dX0_advance_126 (fun H locs hP hD hS => ?_)
  refine lv_if_eq (tgt := 136) hx hb dX0_advance_129 (by decide) (fun c129 => ?_) (fun c129 => ?_)
  · replace h := it_f (b2i_n c129) h
    refine lv_sipush (v := 303) hx hb dX0_advance_136 (by decide) ?_
    exact w_X0_advance_139 C hP hD hS (lv_sub hl [] rfl) h
  · replace h := it_t (b2i_1 c129) h
    refine lv_iload_n hx hb dX0_advance_132 rfl (lv_at hl 1 rfl) ?_
    refine lv_goto (tgt := 139) hx hb dX0_advance_133 (by decide) ?_
    exact w_X0_advance_139 C hP hD hS (lv_sub hl [] rfl) h
def b_X0_advance_58 (N : Nat) (M : Mem) : Option (Mem) := (if (FI M 72 2) < (FI M 72 1) then (f_X0_byteAt (FI M 72 2) M).bind fun r82 => (f_X0_isLetter r82 M).bind fun r87 => (if r87 = true then (f_X0_takeWord N M).bind fun M94 => some M94 else (f_X0_isDigit r82 M).bind fun r101 => (if r101 = true then (f_X0_takeNumber N M).bind fun M108 => some M108 else b_X0_advance_124 N r82 (sFI M 72 2 ((FI M 72 2) + (1 : Int32))))) else some (sFI M 72 4 (302 : Int32)))
set_option maxHeartbeats 4000000 in
set_option maxRecDepth 100000 in
theorem w_X0_advance_58 (C : CX p s m args meth c cX0_advance 2 none RX0 D cy ad zz 0 82 A) {N : Nat} {M : Mem} {M' : Mem} {H : Heap} {locs : List Loc} (hP : va_P D vwCl (pool cy ad 0 82 M) H) (hD : va_D A (pool cy ad 0 82 M)) (hS : va_S A s.heap H locs) {ls : Array Slot} (hl : lv_has ls 2 [(0, .ref (ad 72))]) (h : b_X0_advance_58 N M = some M') : W p l e ({ frames := 6, cells := 0, slots := 0, locals := 128 } : Room) s m args below meth c H locs 0 0 (MQ below (va_Qv (fun (_ : Unit) => True) (fun _ t => PA D cy ad 0 82 A M' t) A) args s 0 0 A) (F0 m 58 ls []) := by
  obtain ⟨hx, hb, hml, hown, hts, hr, hlk, hK, hN, hA, hX⟩ := id C
  unfold b_X0_advance_58 at h
  refine lv_aload_n hx hb dX0_advance_58 rfl (lv_at hl 0 rfl) ?_
  refine gf_0_2 C hP (iL (by decide)) (by decide) wd_270 dX0_advance_59 ?_
  refine lv_aload_n hx hb dX0_advance_62 rfl (lv_at hl 0 rfl) ?_
  refine gf_0_1 C hP (iL (by decide)) (by decide) wd_269 dX0_advance_63 ?_
  refine lv_icmp_lt (tgt := 77) hx hb dX0_advance_66 (by decide) (fun c66 => ?_) (fun c66 => ?_)
  · replace h := it_t c66 h
    refine lv_aload_n hx hb dX0_advance_77 rfl (lv_at hl 0 rfl) ?_
    refine lv_aload_n hx hb dX0_advance_78 rfl (lv_at hl 0 rfl) ?_
    refine gf_0_2 C hP (iL (by decide)) (by decide) wd_270 dX0_advance_79 ?_
    obtain ⟨r82, g82, h⟩ := bd_of h
    refine call_iV (As := [.int (FI M 72 2)]) (rest := []) C hP hD hS (c_X0_byteAt g82) (iL (by decide)) ⟨0, _, _, ent_0 (by decide), rfl, rfl⟩ (gV wd_300 wd_302 wd_1 wd_74 wd_303) ev_X0_byteAt ⟨rfl, rfl⟩ ⟨Nat.le_of_ble_eq_true rfl, Nat.le_of_ble_eq_true rfl⟩ hl.1 rfl (Nat.le_of_ble_eq_true rfl) dX0_advance_82 (fun H locs hP hD hS => ?_)
    refine lv_istore_n (lv' := [(1, .int r82), (0, .ref (ad 72))]) hx hb dX0_advance_85 rfl hl (by decide) rfl (fun ls hl => ?_)
    refine lv_iload_n hx hb dX0_advance_86 rfl (lv_at hl 0 rfl) ?_
    obtain ⟨r87, g87, h⟩ := bd_of h
    refine call_iS (As := [.int r82]) (rest := []) C hP hD hS (c_X0_isLetter g87) (gS wd_304 wd_305 wd_74 wd_306) es_X0_isLetter ⟨rfl, rfl⟩ ⟨Nat.le_of_ble_eq_true rfl, Nat.le_of_ble_eq_true rfl⟩ hl.1 rfl (Nat.le_of_ble_eq_true rfl) dX0_advance_87 (fun H locs hP hD hS => ?_)
    refine lv_if_eq (tgt := 100) hx hb dX0_advance_90 (by decide) (fun c90 => ?_) (fun c90 => ?_)
    · replace h := it_f (b2i_n c90) h
      refine lv_iload_n hx hb dX0_advance_100 rfl (lv_at hl 0 rfl) ?_
      obtain ⟨r101, g101, h⟩ := bd_of h
      refine call_iS (As := [.int r82]) (rest := []) C hP hD hS (c_X0_isDigit g101) (gS wd_332 wd_333 wd_74 wd_334) es_X0_isDigit ⟨rfl, rfl⟩ ⟨Nat.le_of_ble_eq_true rfl, Nat.le_of_ble_eq_true rfl⟩ hl.1 rfl (Nat.le_of_ble_eq_true rfl) dX0_advance_101 (fun H locs hP hD hS => ?_)
      refine lv_if_eq (tgt := 114) hx hb dX0_advance_104 (by decide) (fun c104 => ?_) (fun c104 => ?_)
      · replace h := it_f (b2i_n c104) h
        refine lv_aload_n hx hb dX0_advance_114 rfl (lv_at hl 1 rfl) ?_
        refine lv_dup hx hb dX0_advance_115 rfl ?_
        refine gf_0_2 C hP (iL (by decide)) (by decide) wd_270 dX0_advance_116 ?_
        refine lv_iconst (v := 1) hx hb dX0_advance_119 (by decide) ?_
        refine lv_iadd hx hb dX0_advance_120 ?_
        refine pf_0_2 C hP hD hS (iL (by decide)) (by decide) wd_270 dX0_advance_121 (fun H locs hP hD hS => ?_)
        exact w_X0_advance_124 C hP hD hS (lv_sub hl [1, 0] rfl) h
      · replace h := it_t (b2i_1 c104) h
        refine lv_aload_n hx hb dX0_advance_107 rfl (lv_at hl 1 rfl) ?_
        obtain ⟨M108, g108, h⟩ := bd_of h
        refine call_vV (As := []) (rest := []) C hP hD hS (c_X0_takeNumber g108) (iL (by decide)) ⟨0, _, _, ent_0 (by decide), rfl, rfl⟩ (gV wd_335 wd_337 wd_4 wd_74 wd_338) ev_X0_takeNumber ⟨rfl, rfl⟩ ⟨Nat.le_of_ble_eq_true rfl, Nat.le_of_ble_eq_true rfl⟩ hl.1 rfl (Nat.le_of_ble_eq_true rfl) dX0_advance_108 (fun H locs hP hD hS => ?_)
        refine lv_goto (tgt := 142) hx hb dX0_advance_111 (by decide) ?_
        exact rt_v C hP hD hS dX0_advance_142 (Option.some.inj h)
    · replace h := it_t (b2i_1 c90) h
      refine lv_aload_n hx hb dX0_advance_93 rfl (lv_at hl 1 rfl) ?_
      obtain ⟨M94, g94, h⟩ := bd_of h
      refine call_vV (As := []) (rest := []) C hP hD hS (c_X0_takeWord g94) (iL (by decide)) ⟨0, _, _, ent_0 (by decide), rfl, rfl⟩ (gV wd_307 wd_309 wd_2 wd_74 wd_310) ev_X0_takeWord ⟨rfl, rfl⟩ ⟨Nat.le_of_ble_eq_true rfl, Nat.le_of_ble_eq_true rfl⟩ hl.1 rfl (Nat.le_of_ble_eq_true rfl) dX0_advance_94 (fun H locs hP hD hS => ?_)
      refine lv_goto (tgt := 142) hx hb dX0_advance_97 (by decide) ?_
      exact rt_v C hP hD hS dX0_advance_142 (Option.some.inj h)
  · replace h := it_f c66 h
    refine lv_aload_n hx hb dX0_advance_69 rfl (lv_at hl 0 rfl) ?_
    refine lv_sipush (v := 302) hx hb dX0_advance_70 (by decide) ?_
    refine pf_0_4 C hP hD hS (iL (by decide)) (by decide) wd_272 dX0_advance_73 (fun H locs hP hD hS => ?_)
    exact rt_v C hP hD hS dX0_advance_76 (Option.some.inj h)
def b_X0_advance_50 (N : Nat) (M : Mem) : Option (Mem) := b_X0_advance_58 N (sFI M 72 3 (FI M 72 2))
set_option maxHeartbeats 4000000 in
set_option maxRecDepth 100000 in
theorem w_X0_advance_50 (C : CX p s m args meth c cX0_advance 2 none RX0 D cy ad zz 0 82 A) {N : Nat} {M : Mem} {M' : Mem} {H : Heap} {locs : List Loc} (hP : va_P D vwCl (pool cy ad 0 82 M) H) (hD : va_D A (pool cy ad 0 82 M)) (hS : va_S A s.heap H locs) {ls : Array Slot} (hl : lv_has ls 2 [(0, .ref (ad 72))]) (h : b_X0_advance_50 N M = some M') : W p l e ({ frames := 6, cells := 0, slots := 0, locals := 128 } : Room) s m args below meth c H locs 0 0 (MQ below (va_Qv (fun (_ : Unit) => True) (fun _ t => PA D cy ad 0 82 A M' t) A) args s 0 0 A) (F0 m 50 ls []) := by
  obtain ⟨hx, hb, hml, hown, hts, hr, hlk, hK, hN, hA, hX⟩ := id C
  unfold b_X0_advance_50 at h
  refine lv_aload_n hx hb dX0_advance_50 rfl (lv_at hl 0 rfl) ?_
  refine lv_aload_n hx hb dX0_advance_51 rfl (lv_at hl 0 rfl) ?_
  refine gf_0_2 C hP (iL (by decide)) (by decide) wd_270 dX0_advance_52 ?_
  refine pf_0_3 C hP hD hS (iL (by decide)) (by decide) wd_271 dX0_advance_55 (fun H locs hP hD hS => ?_)
  exact w_X0_advance_58 C hP hD hS hl h
def b_X0_advance_47 (N : Nat) (k0 : Mem → Option (Mem)) (M : Mem) : Option (Mem) := k0 M
set_option maxHeartbeats 4000000 in
set_option maxRecDepth 100000 in
theorem w_X0_advance_47 (C : CX p s m args meth c cX0_advance 2 none RX0 D cy ad zz 0 82 A) {N : Nat} {M : Mem} {k0 : Mem → Option (Mem)} {M' : Mem} (hk0 : ∀ (M : Mem), ∀ (H : Heap) (locs : List Loc), va_P D vwCl (pool cy ad 0 82 M) H → va_D A (pool cy ad 0 82 M) → va_S A s.heap H locs → ∀ (ls : Array Slot), lv_has ls 2 [(0, .ref (ad 72))] → k0 M = some M' → W p l e ({ frames := 6, cells := 0, slots := 0, locals := 128 } : Room) s m args below meth c H locs 0 0 (MQ below (va_Qv (fun (_ : Unit) => True) (fun _ t => PA D cy ad 0 82 A M' t) A) args s 0 0 A) (F0 m 0 ls [])) {H : Heap} {locs : List Loc} (hP : va_P D vwCl (pool cy ad 0 82 M) H) (hD : va_D A (pool cy ad 0 82 M)) (hS : va_S A s.heap H locs) {ls : Array Slot} (hl : lv_has ls 2 [(0, .ref (ad 72))]) (h : b_X0_advance_47 N k0 M = some M') : W p l e ({ frames := 6, cells := 0, slots := 0, locals := 128 } : Room) s m args below meth c H locs 0 0 (MQ below (va_Qv (fun (_ : Unit) => True) (fun _ t => PA D cy ad 0 82 A M' t) A) args s 0 0 A) (F0 m 47 ls []) := by
  obtain ⟨hx, hb, hml, hown, hts, hr, hlk, hK, hN, hA, hX⟩ := id C
  unfold b_X0_advance_47 at h
  refine lv_goto (tgt := 0) hx hb dX0_advance_47 (by decide) ?_
  exact hk0 _ _ _ hP hD hS _ hl h
def b_X0_advance_37 (N : Nat) (k0 : Mem → Option (Mem)) (M : Mem) : Option (Mem) := b_X0_advance_47 N k0 (sFI M 72 2 ((FI M 72 2) + (1 : Int32)))
set_option maxHeartbeats 4000000 in
set_option maxRecDepth 100000 in
theorem w_X0_advance_37 (C : CX p s m args meth c cX0_advance 2 none RX0 D cy ad zz 0 82 A) {N : Nat} {M : Mem} {k0 : Mem → Option (Mem)} {M' : Mem} (hk0 : ∀ (M : Mem), ∀ (H : Heap) (locs : List Loc), va_P D vwCl (pool cy ad 0 82 M) H → va_D A (pool cy ad 0 82 M) → va_S A s.heap H locs → ∀ (ls : Array Slot), lv_has ls 2 [(0, .ref (ad 72))] → k0 M = some M' → W p l e ({ frames := 6, cells := 0, slots := 0, locals := 128 } : Room) s m args below meth c H locs 0 0 (MQ below (va_Qv (fun (_ : Unit) => True) (fun _ t => PA D cy ad 0 82 A M' t) A) args s 0 0 A) (F0 m 0 ls [])) {H : Heap} {locs : List Loc} (hP : va_P D vwCl (pool cy ad 0 82 M) H) (hD : va_D A (pool cy ad 0 82 M)) (hS : va_S A s.heap H locs) {ls : Array Slot} (hl : lv_has ls 2 [(0, .ref (ad 72))]) (h : b_X0_advance_37 N k0 M = some M') : W p l e ({ frames := 6, cells := 0, slots := 0, locals := 128 } : Room) s m args below meth c H locs 0 0 (MQ below (va_Qv (fun (_ : Unit) => True) (fun _ t => PA D cy ad 0 82 A M' t) A) args s 0 0 A) (F0 m 37 ls []) := by
  obtain ⟨hx, hb, hml, hown, hts, hr, hlk, hK, hN, hA, hX⟩ := id C
  unfold b_X0_advance_37 at h
  refine lv_aload_n hx hb dX0_advance_37 rfl (lv_at hl 0 rfl) ?_
  refine lv_dup hx hb dX0_advance_38 rfl ?_
  refine gf_0_2 C hP (iL (by decide)) (by decide) wd_270 dX0_advance_39 ?_
  refine lv_iconst (v := 1) hx hb dX0_advance_42 (by decide) ?_
  refine lv_iadd hx hb dX0_advance_43 ?_
  refine pf_0_2 C hP hD hS (iL (by decide)) (by decide) wd_270 dX0_advance_44 (fun H locs hP hD hS => ?_)
  exact w_X0_advance_47 C hk0 hP hD hS hl h
def b_X0_advance_0 (N : Nat) : Nat → Mem → Option (Mem)
  | 0, _ => none
  | fu + 1, M => (if (FI M 72 1) ≤ (FI M 72 2) then b_X0_advance_50 N M else (f_X0_byteAt (FI M 72 2) M).bind fun r16 => (if r16 = (32 : Int32) then b_X0_advance_37 N (b_X0_advance_0 N fu) M else (f_X0_byteAt (FI M 72 2) M).bind fun r29 => (if r29 = (10 : Int32) then b_X0_advance_37 N (b_X0_advance_0 N fu) M else b_X0_advance_50 N M)))
set_option maxHeartbeats 4000000 in
set_option maxRecDepth 100000 in
theorem w_X0_advance_0 (C : CX p s m args meth c cX0_advance 2 none RX0 D cy ad zz 0 82 A) {N : Nat} {M' : Mem}  : ∀ (fu : Nat), ∀ (M : Mem), ∀ (H : Heap) (locs : List Loc), va_P D vwCl (pool cy ad 0 82 M) H → va_D A (pool cy ad 0 82 M) → va_S A s.heap H locs → ∀ (ls : Array Slot), lv_has ls 2 [(0, .ref (ad 72))] → b_X0_advance_0 N fu M = some M' → W p l e ({ frames := 6, cells := 0, slots := 0, locals := 128 } : Room) s m args below meth c H locs 0 0 (MQ below (va_Qv (fun (_ : Unit) => True) (fun _ t => PA D cy ad 0 82 A M' t) A) args s 0 0 A) (F0 m 0 ls []) := by
  obtain ⟨hx, hb, hml, hown, hts, hr, hlk, hK, hN, hA, hX⟩ := id C
  intro fu
  induction fu with
  | zero =>
    intro M H locs hP hD hS ls hl h
    exact no_some (show none = some _ from h)
  | succ fu ih =>
    intro M H locs hP hD hS ls hl h
    rw [b_X0_advance_0] at h
    refine lv_aload_n hx hb dX0_advance_0 rfl (lv_at hl 0 rfl) ?_
    refine gf_0_2 C hP (iL (by decide)) (by decide) wd_270 dX0_advance_1 ?_
    refine lv_aload_n hx hb dX0_advance_4 rfl (lv_at hl 0 rfl) ?_
    refine gf_0_1 C hP (iL (by decide)) (by decide) wd_269 dX0_advance_5 ?_
    refine lv_icmp_ge (tgt := 50) hx hb dX0_advance_8 (by decide) (fun c8 => ?_) (fun c8 => ?_)
    · replace h := it_t c8 h
      exact w_X0_advance_50 C hP hD hS hl h
    · replace h := it_f c8 h
      refine lv_aload_n hx hb dX0_advance_11 rfl (lv_at hl 0 rfl) ?_
      refine lv_aload_n hx hb dX0_advance_12 rfl (lv_at hl 0 rfl) ?_
      refine gf_0_2 C hP (iL (by decide)) (by decide) wd_270 dX0_advance_13 ?_
      obtain ⟨r16, g16, h⟩ := bd_of h
      refine call_iV (As := [.int (FI M 72 2)]) (rest := []) C hP hD hS (c_X0_byteAt g16) (iL (by decide)) ⟨0, _, _, ent_0 (by decide), rfl, rfl⟩ (gV wd_300 wd_302 wd_1 wd_74 wd_303) ev_X0_byteAt ⟨rfl, rfl⟩ ⟨Nat.le_of_ble_eq_true rfl, Nat.le_of_ble_eq_true rfl⟩ hl.1 rfl (Nat.le_of_ble_eq_true rfl) dX0_advance_16 (fun H locs hP hD hS => ?_)
      refine lv_bipush (v := 32) hx hb dX0_advance_19 (by decide) ?_
      refine lv_icmp_eq (tgt := 37) hx hb dX0_advance_21 (by decide) (fun c21 => ?_) (fun c21 => ?_)
      · replace h := it_t c21 h
        exact w_X0_advance_37 C ih hP hD hS hl h
      · replace h := it_f c21 h
        refine lv_aload_n hx hb dX0_advance_24 rfl (lv_at hl 0 rfl) ?_
        refine lv_aload_n hx hb dX0_advance_25 rfl (lv_at hl 0 rfl) ?_
        refine gf_0_2 C hP (iL (by decide)) (by decide) wd_270 dX0_advance_26 ?_
        obtain ⟨r29, g29, h⟩ := bd_of h
        refine call_iV (As := [.int (FI M 72 2)]) (rest := []) C hP hD hS (c_X0_byteAt g29) (iL (by decide)) ⟨0, _, _, ent_0 (by decide), rfl, rfl⟩ (gV wd_300 wd_302 wd_1 wd_74 wd_303) ev_X0_byteAt ⟨rfl, rfl⟩ ⟨Nat.le_of_ble_eq_true rfl, Nat.le_of_ble_eq_true rfl⟩ hl.1 rfl (Nat.le_of_ble_eq_true rfl) dX0_advance_29 (fun H locs hP hD hS => ?_)
        refine lv_bipush (v := 10) hx hb dX0_advance_32 (by decide) ?_
        refine lv_icmp_ne (tgt := 50) hx hb dX0_advance_34 (by decide) (fun c34 => ?_) (fun c34 => ?_)
        · replace h := it_f c34 h
          exact w_X0_advance_50 C hP hD hS hl h
        · replace h := it_t c34 h
          exact w_X0_advance_37 C ih hP hD hS hl h
def f_X0_advance (N : Nat) (M : Mem) : Option (Mem) := b_X0_advance_0 N N M
theorem c_X0_advance {l : Launch} {D : va_G} {cy : Nat → ClassId} {ad : Nat → Nat} {zz : (Nat → Nat) × (Nat → Nat)} {N : Nat} {M : Mem} {M' : Mem} (h : f_X0_advance N M = some M') : CTv l D cy ad zz 0 82 yX0_advance (.code yX0_advance cX0_advance 2 none :: tb) ({ frames := 6, cells := 0, slots := 0, locals := 128 } : Room) [.ref (ad 72)] M M' := by
  intro sz
  refine CX.of (by decide +kernel) (fun p e s m args below meth c H ls C hP hD hS hl => ?_) (Nat.le_of_ble_eq_true rfl)
  exact w_X0_advance_0 C N _ _ _ hP hD hS _ hl h
theorem ev_X0_advance : yX0_advance.cls = RX0 ∧ yX0_advance.cls ≠ "java/lang/invoke/MethodHandle" ∧ yX0_advance.cls ≠ "java/lang/invoke/VarHandle" ∧ (parseMethodDescriptor yX0_advance.desc).map (fun d => d.parameters.length) = some 0 := by decide +kernel
end
