section
variable {p : Program} {l : Launch} {e : Env} {s : State} {m : MethodId} {args : Array Value} {below : List Frame} {meth : Method} {c : Code} {D : va_G} {cy : Nat → ClassId} {ad : Nat → Nat} {zz : (Nat → Nat) × (Nat → Nat)} {A : Nat → Prop}
def b_X0_byteAt_0 (M : Mem) (x1 : Int32) : Option (Int32) := (if x1 < 0 then some (0 : Int32) else (if (FI M 72 1) ≤ x1 then some (0 : Int32) else (if (nI (len 71)) ≤ x1 then some (0 : Int32) else gd (inb x1 (len 71)) (some (AI M 71 x1.toNatClampNeg)))))
set_option maxHeartbeats 4000000 in
set_option maxRecDepth 100000 in
theorem w_X0_byteAt_0 (C : CX p s m args meth c cX0_byteAt 2 (some .int) RX0 D cy ad zz 0 82 A) {M : Mem} {x1 : Int32} {rr : Int32} {H : Heap} {locs : List Loc} (hP : va_P D vwCl (pool cy ad 0 82 M) H) (hD : va_D A (pool cy ad 0 82 M)) (hS : va_S A s.heap H locs) {ls : Array Slot} (hl : lv_has ls 2 [(0, .ref (ad 72)), (1, .int x1)]) (h : b_X0_byteAt_0 M x1 = some rr) : W p l e ({ frames := 0, cells := 0, slots := 0, locals := 0 } : Room) s m args below meth c H locs 0 0 (MQ below (va_Qi (fun (x : Int32) (_ : Unit) => x = rr) (fun _ t => PA D cy ad 0 82 A M t) A) args s 0 0 A) (F0 m 0 ls []) := by
  obtain ⟨hx, hb, hml, hown, hts, hr, hlk, hK, hN, hA, hX⟩ := id C
  unfold b_X0_byteAt_0 at h
  refine lv_iload_n hx hb dX0_byteAt_0 rfl (lv_at hl 1 rfl) ?_
  refine lv_if_lt (tgt := 30) hx hb dX0_byteAt_1 (by decide) (fun c1 => ?_) (fun c1 => ?_)
  · replace h := it_t c1 h
    refine lv_iconst (v := 0) hx hb dX0_byteAt_30 (by decide) ?_
    exact rt_i (r := (0 : Int32)) C hP hD hS dX0_byteAt_31 ⟨Option.some.inj h, rfl⟩
  · replace h := it_f c1 h
    refine lv_iload_n hx hb dX0_byteAt_4 rfl (lv_at hl 1 rfl) ?_
    refine lv_aload_n hx hb dX0_byteAt_5 rfl (lv_at hl 0 rfl) ?_
    refine gf_0_1 C hP (iL (by decide)) (by decide) wd_269 dX0_byteAt_6 ?_
    refine lv_icmp_ge (tgt := 30) hx hb dX0_byteAt_9 (by decide) (fun c9 => ?_) (fun c9 => ?_)
    · replace h := it_t c9 h
      refine lv_iconst (v := 0) hx hb dX0_byteAt_30 (by decide) ?_
      exact rt_i (r := (0 : Int32)) C hP hD hS dX0_byteAt_31 ⟨Option.some.inj h, rfl⟩
    · replace h := it_f c9 h
      refine lv_iload_n hx hb dX0_byteAt_12 rfl (lv_at hl 1 rfl) ?_
      refine lv_aload_n hx hb dX0_byteAt_13 rfl (lv_at hl 0 rfl) ?_
      refine gf_0_0 C hP (iL (by decide)) (by decide) wd_268 dX0_byteAt_14 ?_
      refine al_7 C hP (iL (by decide)) (by decide) dX0_byteAt_17 ?_
      refine lv_icmp_ge (tgt := 30) hx hb dX0_byteAt_18 (by decide) (fun c18 => ?_) (fun c18 => ?_)
      · replace h := it_t c18 h
        refine lv_iconst (v := 0) hx hb dX0_byteAt_30 (by decide) ?_
        exact rt_i (r := (0 : Int32)) C hP hD hS dX0_byteAt_31 ⟨Option.some.inj h, rfl⟩
      · replace h := it_f c18 h
        refine lv_aload_n hx hb dX0_byteAt_21 rfl (lv_at hl 0 rfl) ?_
        refine gf_0_0 C hP (iL (by decide)) (by decide) wd_268 dX0_byteAt_22 ?_
        refine lv_iload_n hx hb dX0_byteAt_25 rfl (lv_at hl 1 rfl) ?_
        obtain ⟨gi1, h⟩ := gd_of h
        refine ia_ld C hP (iL (by decide)) (by decide) gi1 dX0_byteAt_26 ?_
        refine lv_goto (tgt := 31) hx hb dX0_byteAt_27 (by decide) ?_
        exact rt_i (r := (AI M 71 x1.toNatClampNeg)) C hP hD hS dX0_byteAt_31 ⟨Option.some.inj h, rfl⟩
def f_X0_byteAt (x1 : Int32) (M : Mem) : Option (Int32) := b_X0_byteAt_0 M x1
theorem c_X0_byteAt {l : Launch} {D : va_G} {cy : Nat → ClassId} {ad : Nat → Nat} {zz : (Nat → Nat) × (Nat → Nat)} {x1 : Int32} {M : Mem} {rr : Int32} (h : f_X0_byteAt x1 M = some rr) : CTi l D cy ad zz 0 82 yX0_byteAt (.code yX0_byteAt cX0_byteAt 2 (some .int) :: tb) ({ frames := 0, cells := 0, slots := 0, locals := 0 } : Room) [.ref (ad 72), .int x1] M rr M := by
  intro sz
  refine CX.of (by decide +kernel) (fun p e s m args below meth c H ls C hP hD hS hl => ?_) (Nat.le_of_ble_eq_true rfl)
  exact w_X0_byteAt_0 C hP hD hS hl h
theorem ev_X0_byteAt : yX0_byteAt.cls = RX0 ∧ yX0_byteAt.cls ≠ "java/lang/invoke/MethodHandle" ∧ yX0_byteAt.cls ≠ "java/lang/invoke/VarHandle" ∧ (parseMethodDescriptor yX0_byteAt.desc).map (fun d => d.parameters.length) = some 1 := by decide +kernel
def b_X0_isLetter_0 (M : Mem) (x0 : Int32) : Option (Bool) := (if x0 < (97 : Int32) then some false else (if (122 : Int32) < x0 then some false else some true))
set_option maxHeartbeats 4000000 in
set_option maxRecDepth 100000 in
theorem w_X0_isLetter_0 (C : CX p s m args meth c cX0_isLetter 1 (some .boolean) RX0 D cy ad zz 0 82 A) {M : Mem} {x0 : Int32} {rr : Bool} {H : Heap} {locs : List Loc} (hP : va_P D vwCl (pool cy ad 0 82 M) H) (hD : va_D A (pool cy ad 0 82 M)) (hS : va_S A s.heap H locs) {ls : Array Slot} (hl : lv_has ls 1 [(0, .int x0)]) (h : b_X0_isLetter_0 M x0 = some rr) : W p l e ({ frames := 0, cells := 0, slots := 0, locals := 0 } : Room) s m args below meth c H locs 0 0 (MQ below (va_Qi (fun (x : Int32) (_ : Unit) => x = b2i rr) (fun _ t => PA D cy ad 0 82 A M t) A) args s 0 0 A) (F0 m 0 ls []) := by
  obtain ⟨hx, hb, hml, hown, hts, hr, hlk, hK, hN, hA, hX⟩ := id C
  unfold b_X0_isLetter_0 at h
  refine lv_iload_n hx hb dX0_isLetter_0 rfl (lv_at hl 0 rfl) ?_
  refine lv_bipush (v := 97) hx hb dX0_isLetter_1 (by decide) ?_
  refine lv_icmp_lt (tgt := 16) hx hb dX0_isLetter_3 (by decide) (fun c3 => ?_) (fun c3 => ?_)
  · replace h := it_t c3 h
    refine lv_iconst (v := 0) hx hb dX0_isLetter_16 (by decide) ?_
    exact rt_z (r := false) C hP hD hS dX0_isLetter_17 ⟨Option.some.inj h, rfl⟩
  · replace h := it_f c3 h
    refine lv_iload_n hx hb dX0_isLetter_6 rfl (lv_at hl 0 rfl) ?_
    refine lv_bipush (v := 122) hx hb dX0_isLetter_7 (by decide) ?_
    refine lv_icmp_gt (tgt := 16) hx hb dX0_isLetter_9 (by decide) (fun c9 => ?_) (fun c9 => ?_)
    · replace h := it_t c9 h
      refine lv_iconst (v := 0) hx hb dX0_isLetter_16 (by decide) ?_
      exact rt_z (r := false) C hP hD hS dX0_isLetter_17 ⟨Option.some.inj h, rfl⟩
    · replace h := it_f c9 h
      refine lv_iconst (v := 1) hx hb dX0_isLetter_12 (by decide) ?_
      refine lv_goto (tgt := 17) hx hb dX0_isLetter_13 (by decide) ?_
      exact rt_z (r := true) C hP hD hS dX0_isLetter_17 ⟨Option.some.inj h, rfl⟩
def f_X0_isLetter (x0 : Int32) (M : Mem) : Option (Bool) := b_X0_isLetter_0 M x0
theorem c_X0_isLetter {l : Launch} {D : va_G} {cy : Nat → ClassId} {ad : Nat → Nat} {zz : (Nat → Nat) × (Nat → Nat)} {x0 : Int32} {M : Mem} {rr : Bool} (h : f_X0_isLetter x0 M = some rr) : CTi l D cy ad zz 0 82 yX0_isLetter (.code yX0_isLetter cX0_isLetter 1 (some .boolean) :: tb) ({ frames := 0, cells := 0, slots := 0, locals := 0 } : Room) [.int x0] M (b2i rr) M := by
  intro sz
  refine CX.of (by decide +kernel) (fun p e s m args below meth c H ls C hP hD hS hl => ?_) (Nat.le_of_ble_eq_true rfl)
  exact w_X0_isLetter_0 C hP hD hS hl h
theorem es_X0_isLetter : yX0_isLetter.cls ≠ "java/lang/invoke/MethodHandle" ∧ yX0_isLetter.cls ≠ "java/lang/invoke/VarHandle" ∧ (parseMethodDescriptor yX0_isLetter.desc).map (fun d => d.parameters.length) = some 1 := by decide +kernel
def b_X0_isDigit_0 (M : Mem) (x0 : Int32) : Option (Bool) := (if x0 < (48 : Int32) then some false else (if (57 : Int32) < x0 then some false else some true))
set_option maxHeartbeats 4000000 in
set_option maxRecDepth 100000 in
theorem w_X0_isDigit_0 (C : CX p s m args meth c cX0_isDigit 1 (some .boolean) RX0 D cy ad zz 0 82 A) {M : Mem} {x0 : Int32} {rr : Bool} {H : Heap} {locs : List Loc} (hP : va_P D vwCl (pool cy ad 0 82 M) H) (hD : va_D A (pool cy ad 0 82 M)) (hS : va_S A s.heap H locs) {ls : Array Slot} (hl : lv_has ls 1 [(0, .int x0)]) (h : b_X0_isDigit_0 M x0 = some rr) : W p l e ({ frames := 0, cells := 0, slots := 0, locals := 0 } : Room) s m args below meth c H locs 0 0 (MQ below (va_Qi (fun (x : Int32) (_ : Unit) => x = b2i rr) (fun _ t => PA D cy ad 0 82 A M t) A) args s 0 0 A) (F0 m 0 ls []) := by
  obtain ⟨hx, hb, hml, hown, hts, hr, hlk, hK, hN, hA, hX⟩ := id C
  unfold b_X0_isDigit_0 at h
  refine lv_iload_n hx hb dX0_isDigit_0 rfl (lv_at hl 0 rfl) ?_
  refine lv_bipush (v := 48) hx hb dX0_isDigit_1 (by decide) ?_
  refine lv_icmp_lt (tgt := 16) hx hb dX0_isDigit_3 (by decide) (fun c3 => ?_) (fun c3 => ?_)
  · replace h := it_t c3 h
    refine lv_iconst (v := 0) hx hb dX0_isDigit_16 (by decide) ?_
    exact rt_z (r := false) C hP hD hS dX0_isDigit_17 ⟨Option.some.inj h, rfl⟩
  · replace h := it_f c3 h
    refine lv_iload_n hx hb dX0_isDigit_6 rfl (lv_at hl 0 rfl) ?_
    refine lv_bipush (v := 57) hx hb dX0_isDigit_7 (by decide) ?_
    refine lv_icmp_gt (tgt := 16) hx hb dX0_isDigit_9 (by decide) (fun c9 => ?_) (fun c9 => ?_)
    · replace h := it_t c9 h
      refine lv_iconst (v := 0) hx hb dX0_isDigit_16 (by decide) ?_
      exact rt_z (r := false) C hP hD hS dX0_isDigit_17 ⟨Option.some.inj h, rfl⟩
    · replace h := it_f c9 h
      refine lv_iconst (v := 1) hx hb dX0_isDigit_12 (by decide) ?_
      refine lv_goto (tgt := 17) hx hb dX0_isDigit_13 (by decide) ?_
      exact rt_z (r := true) C hP hD hS dX0_isDigit_17 ⟨Option.some.inj h, rfl⟩
def f_X0_isDigit (x0 : Int32) (M : Mem) : Option (Bool) := b_X0_isDigit_0 M x0
theorem c_X0_isDigit {l : Launch} {D : va_G} {cy : Nat → ClassId} {ad : Nat → Nat} {zz : (Nat → Nat) × (Nat → Nat)} {x0 : Int32} {M : Mem} {rr : Bool} (h : f_X0_isDigit x0 M = some rr) : CTi l D cy ad zz 0 82 yX0_isDigit (.code yX0_isDigit cX0_isDigit 1 (some .boolean) :: tb) ({ frames := 0, cells := 0, slots := 0, locals := 0 } : Room) [.int x0] M (b2i rr) M := by
  intro sz
  refine CX.of (by decide +kernel) (fun p e s m args below meth c H ls C hP hD hS hl => ?_) (Nat.le_of_ble_eq_true rfl)
  exact w_X0_isDigit_0 C hP hD hS hl h
theorem es_X0_isDigit : yX0_isDigit.cls ≠ "java/lang/invoke/MethodHandle" ∧ yX0_isDigit.cls ≠ "java/lang/invoke/VarHandle" ∧ (parseMethodDescriptor yX0_isDigit.desc).map (fun d => d.parameters.length) = some 1 := by decide +kernel
def b_X0_takeNumber_89 (N : Nat) (t1 : Int32) (M : Mem) : Option (Mem) := some (sFI M 72 4 t1)
set_option maxHeartbeats 4000000 in
set_option maxRecDepth 100000 in
theorem w_X0_takeNumber_89 (C : CX p s m args meth c cX0_takeNumber 1 none RX0 D cy ad zz 0 82 A) {N : Nat} {M : Mem} {M' : Mem} {t1 : Int32} {H : Heap} {locs : List Loc} (hP : va_P D vwCl (pool cy ad 0 82 M) H) (hD : va_D A (pool cy ad 0 82 M)) (hS : va_S A s.heap H locs) {ls : Array Slot} (hl : lv_has ls 1 []) (h : b_X0_takeNumber_89 N t1 M = some M') : W p l e ({ frames := 1, cells := 0, slots := 0, locals := 21 } : Room) s m args below meth c H locs 0 0 (MQ below (va_Qv (fun (_ : Unit) => True) (fun _ t => PA D cy ad 0 82 A M' t) A) args s 0 0 A) (F0 m 89 ls [.int t1, .ref (ad 72)]) := by
  obtain ⟨hx, hb, hml, hown, hts, hr, hlk, hK, hN, hA, hX⟩ := id C
  unfold b_X0_takeNumber_89 at h
  refine pf_0_4 C hP hD hS (iL (by decide)) (by decide) wd_272 dX0_takeNumber_89 (fun H locs hP hD hS => ?_)
  exact rt_v C hP hD hS dX0_takeNumber_92 (Option.some.inj h)
def b_X0_takeNumber_66 (N : Nat) (M : Mem) : Option (Mem) := (if ((FI M 72 2) - (FI M 72 3)) ≤ (4 : Int32) then b_X0_takeNumber_89 N (300 : Int32) M else b_X0_takeNumber_89 N (303 : Int32) M)
set_option maxHeartbeats 4000000 in
set_option maxRecDepth 100000 in
theorem w_X0_takeNumber_66 (C : CX p s m args meth c cX0_takeNumber 1 none RX0 D cy ad zz 0 82 A) {N : Nat} {M : Mem} {M' : Mem} {H : Heap} {locs : List Loc} (hP : va_P D vwCl (pool cy ad 0 82 M) H) (hD : va_D A (pool cy ad 0 82 M)) (hS : va_S A s.heap H locs) {ls : Array Slot} (hl : lv_has ls 1 [(0, .ref (ad 72))]) (h : b_X0_takeNumber_66 N M = some M') : W p l e ({ frames := 1, cells := 0, slots := 0, locals := 21 } : Room) s m args below meth c H locs 0 0 (MQ below (va_Qv (fun (_ : Unit) => True) (fun _ t => PA D cy ad 0 82 A M' t) A) args s 0 0 A) (F0 m 66 ls []) := by
  obtain ⟨hx, hb, hml, hown, hts, hr, hlk, hK, hN, hA, hX⟩ := id C
  unfold b_X0_takeNumber_66 at h
  refine lv_aload_n hx hb dX0_takeNumber_66 rfl (lv_at hl 0 rfl) ?_
  refine lv_aload_n hx hb dX0_takeNumber_67 rfl (lv_at hl 0 rfl) ?_
  refine gf_0_2 C hP (iL (by decide)) (by decide) wd_270 dX0_takeNumber_68 ?_
  refine lv_aload_n hx hb dX0_takeNumber_71 rfl (lv_at hl 0 rfl) ?_
  refine gf_0_3 C hP (iL (by decide)) (by decide) wd_271 dX0_takeNumber_72 ?_
  refine lv_isub hx hb dX0_takeNumber_75 ?_
  refine lv_iconst (v := 4) hx hb dX0_takeNumber_76 (by decide) ?_
  refine lv_icmp_le (tgt := 86) hx hb dX0_takeNumber_77 (by decide) (fun c77 => ?_) (fun c77 => ?_)
  · replace h := it_t c77 h
    refine lv_sipush (v := 300) hx hb dX0_takeNumber_86 (by decide) ?_
    exact w_X0_takeNumber_89 C hP hD hS (lv_sub hl [] rfl) h
  · replace h := it_f c77 h
    refine lv_sipush (v := 303) hx hb dX0_takeNumber_80 (by decide) ?_
    refine lv_goto (tgt := 89) hx hb dX0_takeNumber_83 (by decide) ?_
    exact w_X0_takeNumber_89 C hP hD hS (lv_sub hl [] rfl) h
def b_X0_takeNumber_63 (N : Nat) (k5 : Mem → Option (Mem)) (M : Mem) : Option (Mem) := k5 M
set_option maxHeartbeats 4000000 in
set_option maxRecDepth 100000 in
theorem w_X0_takeNumber_63 (C : CX p s m args meth c cX0_takeNumber 1 none RX0 D cy ad zz 0 82 A) {N : Nat} {M : Mem} {k5 : Mem → Option (Mem)} {M' : Mem} (hk5 : ∀ (M : Mem), ∀ (H : Heap) (locs : List Loc), va_P D vwCl (pool cy ad 0 82 M) H → va_D A (pool cy ad 0 82 M) → va_S A s.heap H locs → ∀ (ls : Array Slot), lv_has ls 1 [(0, .ref (ad 72))] → k5 M = some M' → W p l e ({ frames := 1, cells := 0, slots := 0, locals := 21 } : Room) s m args below meth c H locs 0 0 (MQ below (va_Qv (fun (_ : Unit) => True) (fun _ t => PA D cy ad 0 82 A M' t) A) args s 0 0 A) (F0 m 5 ls [])) {H : Heap} {locs : List Loc} (hP : va_P D vwCl (pool cy ad 0 82 M) H) (hD : va_D A (pool cy ad 0 82 M)) (hS : va_S A s.heap H locs) {ls : Array Slot} (hl : lv_has ls 1 [(0, .ref (ad 72))]) (h : b_X0_takeNumber_63 N k5 M = some M') : W p l e ({ frames := 1, cells := 0, slots := 0, locals := 21 } : Room) s m args below meth c H locs 0 0 (MQ below (va_Qv (fun (_ : Unit) => True) (fun _ t => PA D cy ad 0 82 A M' t) A) args s 0 0 A) (F0 m 63 ls []) := by
  obtain ⟨hx, hb, hml, hown, hts, hr, hlk, hK, hN, hA, hX⟩ := id C
  unfold b_X0_takeNumber_63 at h
  refine lv_goto (tgt := 5) hx hb dX0_takeNumber_63 (by decide) ?_
  exact hk5 _ _ _ hP hD hS _ hl h
def b_X0_takeNumber_53 (N : Nat) (k5 : Mem → Option (Mem)) (M : Mem) : Option (Mem) := b_X0_takeNumber_63 N k5 (sFI M 72 2 ((FI M 72 2) + (1 : Int32)))
set_option maxHeartbeats 4000000 in
set_option maxRecDepth 100000 in
theorem w_X0_takeNumber_53 (C : CX p s m args meth c cX0_takeNumber 1 none RX0 D cy ad zz 0 82 A) {N : Nat} {M : Mem} {k5 : Mem → Option (Mem)} {M' : Mem} (hk5 : ∀ (M : Mem), ∀ (H : Heap) (locs : List Loc), va_P D vwCl (pool cy ad 0 82 M) H → va_D A (pool cy ad 0 82 M) → va_S A s.heap H locs → ∀ (ls : Array Slot), lv_has ls 1 [(0, .ref (ad 72))] → k5 M = some M' → W p l e ({ frames := 1, cells := 0, slots := 0, locals := 21 } : Room) s m args below meth c H locs 0 0 (MQ below (va_Qv (fun (_ : Unit) => True) (fun _ t => PA D cy ad 0 82 A M' t) A) args s 0 0 A) (F0 m 5 ls [])) {H : Heap} {locs : List Loc} (hP : va_P D vwCl (pool cy ad 0 82 M) H) (hD : va_D A (pool cy ad 0 82 M)) (hS : va_S A s.heap H locs) {ls : Array Slot} (hl : lv_has ls 1 [(0, .ref (ad 72))]) (h : b_X0_takeNumber_53 N k5 M = some M') : W p l e ({ frames := 1, cells := 0, slots := 0, locals := 21 } : Room) s m args below meth c H locs 0 0 (MQ below (va_Qv (fun (_ : Unit) => True) (fun _ t => PA D cy ad 0 82 A M' t) A) args s 0 0 A) (F0 m 53 ls []) := by
  obtain ⟨hx, hb, hml, hown, hts, hr, hlk, hK, hN, hA, hX⟩ := id C
  unfold b_X0_takeNumber_53 at h
  refine lv_aload_n hx hb dX0_takeNumber_53 rfl (lv_at hl 0 rfl) ?_
  refine lv_dup hx hb dX0_takeNumber_54 rfl ?_
  refine gf_0_2 C hP (iL (by decide)) (by decide) wd_270 dX0_takeNumber_55 ?_
  refine lv_iconst (v := 1) hx hb dX0_takeNumber_58 (by decide) ?_
  refine lv_iadd hx hb dX0_takeNumber_59 ?_
  refine pf_0_2 C hP hD hS (iL (by decide)) (by decide) wd_270 dX0_takeNumber_60 (fun H locs hP hD hS => ?_)
  exact w_X0_takeNumber_63 C hk5 hP hD hS hl h
def b_X0_takeNumber_5 (N : Nat) : Nat → Mem → Option (Mem)
  | 0, _ => none
  | fu + 1, M => (if (FI M 72 1) ≤ (FI M 72 2) then b_X0_takeNumber_66 N M else (f_X0_byteAt (FI M 72 2) M).bind fun r21 => (f_X0_isDigit r21 M).bind fun r24 => (if r24 = true then (f_X0_byteAt (FI M 72 2) M).bind fun r43 => b_X0_takeNumber_53 N (b_X0_takeNumber_5 N fu) (sFI M 72 5 ((((FI M 72 5) * (10 : Int32)) + r43) - (48 : Int32))) else b_X0_takeNumber_66 N M))
set_option maxHeartbeats 4000000 in
set_option maxRecDepth 100000 in
theorem w_X0_takeNumber_5 (C : CX p s m args meth c cX0_takeNumber 1 none RX0 D cy ad zz 0 82 A) {N : Nat} {M' : Mem}  : ∀ (fu : Nat), ∀ (M : Mem), ∀ (H : Heap) (locs : List Loc), va_P D vwCl (pool cy ad 0 82 M) H → va_D A (pool cy ad 0 82 M) → va_S A s.heap H locs → ∀ (ls : Array Slot), lv_has ls 1 [(0, .ref (ad 72))] → b_X0_takeNumber_5 N fu M = some M' → W p l e ({ frames := 1, cells := 0, slots := 0, locals := 21 } : Room) s m args below meth c H locs 0 0 (MQ below (va_Qv (fun (_ : Unit) => True) (fun _ t => PA D cy ad 0 82 A M' t) A) args s 0 0 A) (F0 m 5 ls []) := by
  obtain ⟨hx, hb, hml, hown, hts, hr, hlk, hK, hN, hA, hX⟩ := id C
  intro fu
  induction fu with
  | zero =>
    intro M H locs hP hD hS ls hl h
    exact no_some (show none = some _ from h)
  | succ fu ih =>
    intro M H locs hP hD hS ls hl h
    rw [b_X0_takeNumber_5] at h
    refine lv_aload_n hx hb dX0_takeNumber_5 rfl (lv_at hl 0 rfl) ?_
    refine gf_0_2 C hP (iL (by decide)) (by decide) wd_270 dX0_takeNumber_6 ?_
    refine lv_aload_n hx hb dX0_takeNumber_9 rfl (lv_at hl 0 rfl) ?_
    refine gf_0_1 C hP (iL (by decide)) (by decide) wd_269 dX0_takeNumber_10 ?_
    refine lv_icmp_ge (tgt := 66) hx hb dX0_takeNumber_13 (by decide) (fun c13 => ?_) (fun c13 => ?_)
    · replace h := it_t c13 h
      exact w_X0_takeNumber_66 C hP hD hS hl h
    · replace h := it_f c13 h
      refine lv_aload_n hx hb dX0_takeNumber_16 rfl (lv_at hl 0 rfl) ?_
      refine lv_aload_n hx hb dX0_takeNumber_17 rfl (lv_at hl 0 rfl) ?_
      refine gf_0_2 C hP (iL (by decide)) (by decide) wd_270 dX0_takeNumber_18 ?_
      obtain ⟨r21, g21, h⟩ := bd_of h
      refine call_iV (As := [.int (FI M 72 2)]) (rest := []) C hP hD hS (c_X0_byteAt g21) (iL (by decide)) ⟨0, _, _, ent_0 (by decide), rfl, rfl⟩ (gV wd_300 wd_302 wd_1 wd_74 wd_303) ev_X0_byteAt ⟨rfl, rfl⟩ ⟨Nat.le_of_ble_eq_true rfl, Nat.le_of_ble_eq_true rfl⟩ hl.1 rfl (Nat.le_of_ble_eq_true rfl) dX0_takeNumber_21 (fun H locs hP hD hS => ?_)
      obtain ⟨r24, g24, h⟩ := bd_of h
      refine call_iS (As := [.int r21]) (rest := []) C hP hD hS (c_X0_isDigit g24) (gS wd_332 wd_333 wd_74 wd_334) es_X0_isDigit ⟨rfl, rfl⟩ ⟨Nat.le_of_ble_eq_true rfl, Nat.le_of_ble_eq_true rfl⟩ hl.1 rfl (Nat.le_of_ble_eq_true rfl) dX0_takeNumber_24 (fun H locs hP hD hS => ?_)
      refine lv_if_eq (tgt := 66) hx hb dX0_takeNumber_27 (by decide) (fun c27 => ?_) (fun c27 => ?_)
      · replace h := it_f (b2i_n c27) h
        exact w_X0_takeNumber_66 C hP hD hS hl h
      · replace h := it_t (b2i_1 c27) h
        refine lv_aload_n hx hb dX0_takeNumber_30 rfl (lv_at hl 0 rfl) ?_
        refine lv_aload_n hx hb dX0_takeNumber_31 rfl (lv_at hl 0 rfl) ?_
        refine gf_0_5 C hP (iL (by decide)) (by decide) wd_273 dX0_takeNumber_32 ?_
        refine lv_bipush (v := 10) hx hb dX0_takeNumber_35 (by decide) ?_
        refine lv_imul hx hb dX0_takeNumber_37 ?_
        refine lv_aload_n hx hb dX0_takeNumber_38 rfl (lv_at hl 0 rfl) ?_
        refine lv_aload_n hx hb dX0_takeNumber_39 rfl (lv_at hl 0 rfl) ?_
        refine gf_0_2 C hP (iL (by decide)) (by decide) wd_270 dX0_takeNumber_40 ?_
        obtain ⟨r43, g43, h⟩ := bd_of h
        refine call_iV (As := [.int (FI M 72 2)]) (rest := [.int ((FI M 72 5) * (10 : Int32)), .ref (ad 72)]) C hP hD hS (c_X0_byteAt g43) (iL (by decide)) ⟨0, _, _, ent_0 (by decide), rfl, rfl⟩ (gV wd_300 wd_302 wd_1 wd_74 wd_303) ev_X0_byteAt ⟨rfl, rfl⟩ ⟨Nat.le_of_ble_eq_true rfl, Nat.le_of_ble_eq_true rfl⟩ hl.1 rfl (Nat.le_of_ble_eq_true rfl) dX0_takeNumber_43 (fun H locs hP hD hS => ?_)
        refine lv_iadd hx hb dX0_takeNumber_46 ?_
        refine lv_bipush (v := 48) hx hb dX0_takeNumber_47 (by decide) ?_
        refine lv_isub hx hb dX0_takeNumber_49 ?_
        refine pf_0_5 C hP hD hS (iL (by decide)) (by decide) wd_273 dX0_takeNumber_50 (fun H locs hP hD hS => ?_)
        exact w_X0_takeNumber_53 C ih hP hD hS hl h
def b_X0_takeNumber_0 (N : Nat) (M : Mem) : Option (Mem) := b_X0_takeNumber_5 N N (sFI M 72 5 (0 : Int32))
set_option maxHeartbeats 4000000 in
set_option maxRecDepth 100000 in
theorem w_X0_takeNumber_0 (C : CX p s m args meth c cX0_takeNumber 1 none RX0 D cy ad zz 0 82 A) {N : Nat} {M : Mem} {M' : Mem} {H : Heap} {locs : List Loc} (hP : va_P D vwCl (pool cy ad 0 82 M) H) (hD : va_D A (pool cy ad 0 82 M)) (hS : va_S A s.heap H locs) {ls : Array Slot} (hl : lv_has ls 1 [(0, .ref (ad 72))]) (h : b_X0_takeNumber_0 N M = some M') : W p l e ({ frames := 1, cells := 0, slots := 0, locals := 21 } : Room) s m args below meth c H locs 0 0 (MQ below (va_Qv (fun (_ : Unit) => True) (fun _ t => PA D cy ad 0 82 A M' t) A) args s 0 0 A) (F0 m 0 ls []) := by
  obtain ⟨hx, hb, hml, hown, hts, hr, hlk, hK, hN, hA, hX⟩ := id C
  unfold b_X0_takeNumber_0 at h
  refine lv_aload_n hx hb dX0_takeNumber_0 rfl (lv_at hl 0 rfl) ?_
  refine lv_iconst (v := 0) hx hb dX0_takeNumber_1 (by decide) ?_
  refine pf_0_5 C hP hD hS (iL (by decide)) (by decide) wd_273 dX0_takeNumber_2 (fun H locs hP hD hS => ?_)
  exact w_X0_takeNumber_5 C N _ _ _ hP hD hS _ hl h
def f_X0_takeNumber (N : Nat) (M : Mem) : Option (Mem) := b_X0_takeNumber_0 N M
theorem c_X0_takeNumber {l : Launch} {D : va_G} {cy : Nat → ClassId} {ad : Nat → Nat} {zz : (Nat → Nat) × (Nat → Nat)} {N : Nat} {M : Mem} {M' : Mem} (h : f_X0_takeNumber N M = some M') : CTv l D cy ad zz 0 82 yX0_takeNumber (.code yX0_takeNumber cX0_takeNumber 1 none :: tb) ({ frames := 1, cells := 0, slots := 0, locals := 21 } : Room) [.ref (ad 72)] M M' := by
  intro sz
  refine CX.of (by decide +kernel) (fun p e s m args below meth c H ls C hP hD hS hl => ?_) (Nat.le_of_ble_eq_true rfl)
  exact w_X0_takeNumber_0 C hP hD hS hl h
theorem ev_X0_takeNumber : yX0_takeNumber.cls = RX0 ∧ yX0_takeNumber.cls ≠ "java/lang/invoke/MethodHandle" ∧ yX0_takeNumber.cls ≠ "java/lang/invoke/VarHandle" ∧ (parseMethodDescriptor yX0_takeNumber.desc).map (fun d => d.parameters.length) = some 0 := by decide +kernel
def b_X0_isSign_0 (M : Mem) (x0 : Int32) : Option (Bool) := (if x0 = (40 : Int32) then some true else (if x0 = (41 : Int32) then some true else (if x0 = (59 : Int32) then some true else (if x0 = (43 : Int32) then some true else (if x0 = (45 : Int32) then some true else (if x0 = (42 : Int32) then some true else (if x0 = (60 : Int32) then some true else (if x0 = (61 : Int32) then some true else some false))))))))
set_option maxHeartbeats 4000000 in
set_option maxRecDepth 100000 in
theorem w_X0_isSign_0 (C : CX p s m args meth c cX0_isSign 1 (some .boolean) RX0 D cy ad zz 0 82 A) {M : Mem} {x0 : Int32} {rr : Bool} {H : Heap} {locs : List Loc} (hP : va_P D vwCl (pool cy ad 0 82 M) H) (hD : va_D A (pool cy ad 0 82 M)) (hS : va_S A s.heap H locs) {ls : Array Slot} (hl : lv_has ls 1 [(0, .int x0)]) (h : b_X0_isSign_0 M x0 = some rr) : W p l e ({ frames := 0, cells := 0, slots := 0, locals := 0 } : Room) s m args below meth c H locs 0 0 (MQ below (va_Qi (fun (x : Int32) (_ : Unit) => x = b2i rr) (fun _ t => PA D cy ad 0 82 A M t) A) args s 0 0 A) (F0 m 0 ls []) := by
  obtain ⟨hx, hb, hml, hown, hts, hr, hlk, hK, hN, hA, hX⟩ := id C
  unfold b_X0_isSign_0 at h
  refine lv_iload_n hx hb dX0_isSign_0 rfl (lv_at hl 0 rfl) ?_
  refine lv_bipush (v := 40) hx hb dX0_isSign_1 (by decide) ?_
  refine lv_icmp_eq (tgt := 48) hx hb dX0_isSign_3 (by decide) (fun c3 => ?_) (fun c3 => ?_)
  · replace h := it_t c3 h
    refine lv_iconst (v := 1) hx hb dX0_isSign_48 (by decide) ?_
    refine lv_goto (tgt := 53) hx hb dX0_isSign_49 (by decide) ?_
    exact rt_z (r := true) C hP hD hS dX0_isSign_53 ⟨Option.some.inj h, rfl⟩
  · replace h := it_f c3 h
    refine lv_iload_n hx hb dX0_isSign_6 rfl (lv_at hl 0 rfl) ?_
    refine lv_bipush (v := 41) hx hb dX0_isSign_7 (by decide) ?_
    refine lv_icmp_eq (tgt := 48) hx hb dX0_isSign_9 (by decide) (fun c9 => ?_) (fun c9 => ?_)
    · replace h := it_t c9 h
      refine lv_iconst (v := 1) hx hb dX0_isSign_48 (by decide) ?_
      refine lv_goto (tgt := 53) hx hb dX0_isSign_49 (by decide) ?_
      exact rt_z (r := true) C hP hD hS dX0_isSign_53 ⟨Option.some.inj h, rfl⟩
    · replace h := it_f c9 h
      refine lv_iload_n hx hb dX0_isSign_12 rfl (lv_at hl 0 rfl) ?_
      refine lv_bipush (v := 59) hx hb dX0_isSign_13 (by decide) ?_
      refine lv_icmp_eq (tgt := 48) hx hb dX0_isSign_15 (by decide) (fun c15 => ?_) (fun c15 => ?_)
      · replace h := it_t c15 h
        refine lv_iconst (v := 1) hx hb dX0_isSign_48 (by decide) ?_
        refine lv_goto (tgt := 53) hx hb dX0_isSign_49 (by decide) ?_
        exact rt_z (r := true) C hP hD hS dX0_isSign_53 ⟨Option.some.inj h, rfl⟩
      · replace h := it_f c15 h
        refine lv_iload_n hx hb dX0_isSign_18 rfl (lv_at hl 0 rfl) ?_
        refine lv_bipush (v := 43) hx hb dX0_isSign_19 (by decide) ?_
        refine lv_icmp_eq (tgt := 48) hx hb dX0_isSign_21 (by decide) (fun c21 => ?_) (fun c21 => ?_)
        · replace h := it_t c21 h
          refine lv_iconst (v := 1) hx hb dX0_isSign_48 (by decide) ?_
          refine lv_goto (tgt := 53) hx hb dX0_isSign_49 (by decide) ?_
          exact rt_z (r := true) C hP hD hS dX0_isSign_53 ⟨Option.some.inj h, rfl⟩
        · replace h := it_f c21 h
          refine lv_iload_n hx hb dX0_isSign_24 rfl (lv_at hl 0 rfl) ?_
          refine lv_bipush (v := 45) hx hb dX0_isSign_25 (by decide) ?_
          refine lv_icmp_eq (tgt := 48) hx hb dX0_isSign_27 (by decide) (fun c27 => ?_) (fun c27 => ?_)
          · replace h := it_t c27 h
            refine lv_iconst (v := 1) hx hb dX0_isSign_48 (by decide) ?_
            refine lv_goto (tgt := 53) hx hb dX0_isSign_49 (by decide) ?_
            exact rt_z (r := true) C hP hD hS dX0_isSign_53 ⟨Option.some.inj h, rfl⟩
          · replace h := it_f c27 h
            refine lv_iload_n hx hb dX0_isSign_30 rfl (lv_at hl 0 rfl) ?_
            refine lv_bipush (v := 42) hx hb dX0_isSign_31 (by decide) ?_
            refine lv_icmp_eq (tgt := 48) hx hb dX0_isSign_33 (by decide) (fun c33 => ?_) (fun c33 => ?_)
            · replace h := it_t c33 h
              refine lv_iconst (v := 1) hx hb dX0_isSign_48 (by decide) ?_
              refine lv_goto (tgt := 53) hx hb dX0_isSign_49 (by decide) ?_
              exact rt_z (r := true) C hP hD hS dX0_isSign_53 ⟨Option.some.inj h, rfl⟩
            · replace h := it_f c33 h
              refine lv_iload_n hx hb dX0_isSign_36 rfl (lv_at hl 0 rfl) ?_
              refine lv_bipush (v := 60) hx hb dX0_isSign_37 (by decide) ?_
              refine lv_icmp_eq (tgt := 48) hx hb dX0_isSign_39 (by decide) (fun c39 => ?_) (fun c39 => ?_)
              · replace h := it_t c39 h
                refine lv_iconst (v := 1) hx hb dX0_isSign_48 (by decide) ?_
                refine lv_goto (tgt := 53) hx hb dX0_isSign_49 (by decide) ?_
                exact rt_z (r := true) C hP hD hS dX0_isSign_53 ⟨Option.some.inj h, rfl⟩
              · replace h := it_f c39 h
                refine lv_iload_n hx hb dX0_isSign_42 rfl (lv_at hl 0 rfl) ?_
                refine lv_bipush (v := 61) hx hb dX0_isSign_43 (by decide) ?_
                refine lv_icmp_ne (tgt := 52) hx hb dX0_isSign_45 (by decide) (fun c45 => ?_) (fun c45 => ?_)
                · replace h := it_f c45 h
                  refine lv_iconst (v := 0) hx hb dX0_isSign_52 (by decide) ?_
                  exact rt_z (r := false) C hP hD hS dX0_isSign_53 ⟨Option.some.inj h, rfl⟩
                · replace h := it_t c45 h
                  refine lv_iconst (v := 1) hx hb dX0_isSign_48 (by decide) ?_
                  refine lv_goto (tgt := 53) hx hb dX0_isSign_49 (by decide) ?_
                  exact rt_z (r := true) C hP hD hS dX0_isSign_53 ⟨Option.some.inj h, rfl⟩
def f_X0_isSign (x0 : Int32) (M : Mem) : Option (Bool) := b_X0_isSign_0 M x0
theorem c_X0_isSign {l : Launch} {D : va_G} {cy : Nat → ClassId} {ad : Nat → Nat} {zz : (Nat → Nat) × (Nat → Nat)} {x0 : Int32} {M : Mem} {rr : Bool} (h : f_X0_isSign x0 M = some rr) : CTi l D cy ad zz 0 82 yX0_isSign (.code yX0_isSign cX0_isSign 1 (some .boolean) :: tb) ({ frames := 0, cells := 0, slots := 0, locals := 0 } : Room) [.int x0] M (b2i rr) M := by
  intro sz
  refine CX.of (by decide +kernel) (fun p e s m args below meth c H ls C hP hD hS hl => ?_) (Nat.le_of_ble_eq_true rfl)
  exact w_X0_isSign_0 C hP hD hS hl h
theorem es_X0_isSign : yX0_isSign.cls ≠ "java/lang/invoke/MethodHandle" ∧ yX0_isSign.cls ≠ "java/lang/invoke/VarHandle" ∧ (parseMethodDescriptor yX0_isSign.desc).map (fun d => d.parameters.length) = some 1 := by decide +kernel
end
