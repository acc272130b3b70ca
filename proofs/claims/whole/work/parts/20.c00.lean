section
variable {p : Program} {l : Launch} {e : Env} {s : State} {m : MethodId} {args : Array Value} {below : List Frame} {meth : Method} {c : Code} {D : va_G} {cy : Nat → ClassId} {ad : Nat → Nat} {zz : (Nat → Nat) × (Nat → Nat)} {A : Nat → Prop}
def b_X3_emit_37 (j0 : Nat) (x1 : Int32) (x2 : Int32) (M : Mem) : Option (Mem) := some (sFI M j0 4 ((FI M j0 4) + (1 : Int32)))
set_option maxHeartbeats 4000000 in
set_option maxRecDepth 100000 in
theorem w_X3_emit_37 (C : CX p s m args meth c cX3_emit 3 none RX3 D cy ad zz 0 82 A) {M : Mem} {j0 : Nat} (hk_j0 : kd j0 = 3) {x1 : Int32} {x2 : Int32} {M' : Mem} {H : Heap} {locs : List Loc} (hP : va_P D vwCl (pool cy ad 0 82 M) H) (hD : va_D A (pool cy ad 0 82 M)) (hS : va_S A s.heap H locs) {ls : Array Slot} (hl : lv_has ls 3 [(0, .ref (ad j0))]) (h : b_X3_emit_37 j0 x1 x2 M = some M') : W p l e ({ frames := 0, cells := 0, slots := 0, locals := 0 } : Room) s m args below meth c H locs 0 0 (MQ below (va_Qv (fun (_ : Unit) => True) (fun _ t => PA D cy ad 0 82 A M' t) A) args s 0 0 A) (F0 m 37 ls []) := by
  obtain ⟨hx, hb, hml, hown, hts, hr, hlk, hK, hN, hA, hX⟩ := id C
  unfold b_X3_emit_37 at h
  refine lv_aload_n hx hb dX3_emit_37 rfl (lv_at hl 0 rfl) ?_
  refine lv_dup hx hb dX3_emit_38 rfl ?_
  refine gf_3_4 C hP (p_3 hk_j0) hk_j0 wd_178 dX3_emit_39 ?_
  refine lv_iconst (v := 1) hx hb dX3_emit_42 (by decide) ?_
  refine lv_iadd hx hb dX3_emit_43 ?_
  refine pf_3_4 C hP hD hS (p_3 hk_j0) hk_j0 wd_178 dX3_emit_44 (fun H locs hP hD hS => ?_)
  exact rt_v C hP hD hS dX3_emit_47 (Option.some.inj h)
def b_X3_emit_27 (j0 : Nat) (x1 : Int32) (x2 : Int32) (M : Mem) : Option (Mem) := gd (inb (FI M j0 4) (len (j0 + 12))) (b_X3_emit_37 j0 x1 x2 (sAI M (j0 + 12) (FI M j0 4).toNatClampNeg x2))
set_option maxHeartbeats 4000000 in
set_option maxRecDepth 100000 in
theorem w_X3_emit_27 (C : CX p s m args meth c cX3_emit 3 none RX3 D cy ad zz 0 82 A) {M : Mem} {j0 : Nat} (hk_j0 : kd j0 = 3) {x1 : Int32} {x2 : Int32} {M' : Mem} {H : Heap} {locs : List Loc} (hP : va_P D vwCl (pool cy ad 0 82 M) H) (hD : va_D A (pool cy ad 0 82 M)) (hS : va_S A s.heap H locs) {ls : Array Slot} (hl : lv_has ls 3 [(0, .ref (ad j0)), (2, .int x2)]) (h : b_X3_emit_27 j0 x1 x2 M = some M') : W p l e ({ frames := 0, cells := 0, slots := 0, locals := 0 } : Room) s m args below meth c H locs 0 0 (MQ below (va_Qv (fun (_ : Unit) => True) (fun _ t => PA D cy ad 0 82 A M' t) A) args s 0 0 A) (F0 m 27 ls []) := by
  obtain ⟨hx, hb, hml, hown, hts, hr, hlk, hK, hN, hA, hX⟩ := id C
  unfold b_X3_emit_27 at h
  refine lv_aload_n hx hb dX3_emit_27 rfl (lv_at hl 0 rfl) ?_
  refine gf_3_1 C hP (p_3 hk_j0) hk_j0 wd_174 dX3_emit_28 ?_
  refine lv_aload_n hx hb dX3_emit_31 rfl (lv_at hl 0 rfl) ?_
  refine gf_3_4 C hP (p_3 hk_j0) hk_j0 wd_178 dX3_emit_32 ?_
  refine lv_iload_n hx hb dX3_emit_35 rfl (lv_at hl 1 rfl) ?_
  obtain ⟨gi1, h⟩ := gd_of h
  refine ia_st C hP hD hS (p_3_1 hk_j0) (k_3_1 hk_j0) gi1 dX3_emit_36 (fun H locs hP hD hS => ?_)
  exact w_X3_emit_37 C hk_j0 hP hD hS (lv_sub hl [0] rfl) h
def b_X3_emit_0 (j0 : Nat) (x1 : Int32) (x2 : Int32) (M : Mem) : Option (Mem) := (if (FI M j0 4) < 0 then some M else (if (160 : Int32) ≤ (FI M j0 4) then some M else gd (inb (FI M j0 4) (len (j0 + 6))) (b_X3_emit_27 j0 x1 x2 (sAI M (j0 + 6) (FI M j0 4).toNatClampNeg x1))))
set_option maxHeartbeats 4000000 in
set_option maxRecDepth 100000 in
theorem w_X3_emit_0 (C : CX p s m args meth c cX3_emit 3 none RX3 D cy ad zz 0 82 A) {M : Mem} {j0 : Nat} (hk_j0 : kd j0 = 3) {x1 : Int32} {x2 : Int32} {M' : Mem} {H : Heap} {locs : List Loc} (hP : va_P D vwCl (pool cy ad 0 82 M) H) (hD : va_D A (pool cy ad 0 82 M)) (hS : va_S A s.heap H locs) {ls : Array Slot} (hl : lv_has ls 3 [(0, .ref (ad j0)), (1, .int x1), (2, .int x2)]) (h : b_X3_emit_0 j0 x1 x2 M = some M') : W p l e ({ frames := 0, cells := 0, slots := 0, locals := 0 } : Room) s m args below meth c H locs 0 0 (MQ below (va_Qv (fun (_ : Unit) => True) (fun _ t => PA D cy ad 0 82 A M' t) A) args s 0 0 A) (F0 m 0 ls []) := by
  obtain ⟨hx, hb, hml, hown, hts, hr, hlk, hK, hN, hA, hX⟩ := id C
  unfold b_X3_emit_0 at h
  refine lv_aload_n hx hb dX3_emit_0 rfl (lv_at hl 0 rfl) ?_
  refine gf_3_4 C hP (p_3 hk_j0) hk_j0 wd_178 dX3_emit_1 ?_
  refine lv_if_lt (tgt := 47) hx hb dX3_emit_4 (by decide) (fun c4 => ?_) (fun c4 => ?_)
  · replace h := it_t c4 h
    exact rt_v C hP hD hS dX3_emit_47 (Option.some.inj h)
  · replace h := it_f c4 h
    refine lv_aload_n hx hb dX3_emit_7 rfl (lv_at hl 0 rfl) ?_
    refine gf_3_4 C hP (p_3 hk_j0) hk_j0 wd_178 dX3_emit_8 ?_
    refine lv_sipush (v := 160) hx hb dX3_emit_11 (by decide) ?_
    refine lv_icmp_ge (tgt := 47) hx hb dX3_emit_14 (by decide) (fun c14 => ?_) (fun c14 => ?_)
    · replace h := it_t c14 h
      exact rt_v C hP hD hS dX3_emit_47 (Option.some.inj h)
    · replace h := it_f c14 h
      refine lv_aload_n hx hb dX3_emit_17 rfl (lv_at hl 0 rfl) ?_
      refine gf_3_0 C hP (p_3 hk_j0) hk_j0 wd_173 dX3_emit_18 ?_
      refine lv_aload_n hx hb dX3_emit_21 rfl (lv_at hl 0 rfl) ?_
      refine gf_3_4 C hP (p_3 hk_j0) hk_j0 wd_178 dX3_emit_22 ?_
      refine lv_iload_n hx hb dX3_emit_25 rfl (lv_at hl 1 rfl) ?_
      obtain ⟨gi1, h⟩ := gd_of h
      refine ia_st C hP hD hS (p_3_0 hk_j0) (k_3_0 hk_j0) gi1 dX3_emit_26 (fun H locs hP hD hS => ?_)
      exact w_X3_emit_27 C hk_j0 hP hD hS (lv_sub hl [0, 2] rfl) h
def f_X3_emit (j0 : Nat) (x1 : Int32) (x2 : Int32) (M : Mem) : Option (Mem) := b_X3_emit_0 j0 x1 x2 M
theorem c_X3_emit {l : Launch} {D : va_G} {cy : Nat → ClassId} {ad : Nat → Nat} {zz : (Nat → Nat) × (Nat → Nat)} {j0 : Nat} (hk_j0 : kd j0 = 3) {x1 : Int32} {x2 : Int32} {M : Mem} {M' : Mem} (h : f_X3_emit j0 x1 x2 M = some M') : CTv l D cy ad zz 0 82 yX3_emit (.code yX3_emit cX3_emit 3 none :: tb) ({ frames := 0, cells := 0, slots := 0, locals := 0 } : Room) [.ref (ad j0), .int x1, .int x2] M M' := by
  intro sz
  refine CX.of (by decide +kernel) (fun p e s m args below meth c H ls C hP hD hS hl => ?_) (Nat.le_of_ble_eq_true rfl)
  exact w_X3_emit_0 C hk_j0 hP hD hS hl h
theorem ev_X3_emit : yX3_emit.cls = RX3 ∧ yX3_emit.cls ≠ "java/lang/invoke/MethodHandle" ∧ yX3_emit.cls ≠ "java/lang/invoke/VarHandle" ∧ (parseMethodDescriptor yX3_emit.desc).map (fun d => d.parameters.length) = some 2 := by decide +kernel
def b_J7_fill_53178_14 (N : Nat) (j0 : Nat) (x1 : Int32) (k5 : Int32 → Int32 → Mem → Option (Mem)) (x2 : Int32) (x3 : Int32) (M : Mem) : Option (Mem) := k5 (x2 + (1 : Int32)) x3 M
set_option maxHeartbeats 4000000 in
set_option maxRecDepth 100000 in
theorem w_J7_fill_53178_14 (C : CX p s m args meth c cJ7_fill_53178 4 none RJ7 D cy ad zz 0 82 A) {N : Nat} {M : Mem} {j0 : Nat} (hk_j0 : kd j0 = 7) (hp_j0 : inP 0 82 j0) {x1 : Int32} {k5 : Int32 → Int32 → Mem → Option (Mem)} {M' : Mem} (hk5 : ∀ (x2 : Int32), ∀ (x3 : Int32), ∀ (M : Mem), ∀ (H : Heap) (locs : List Loc), va_P D vwCl (pool cy ad 0 82 M) H → va_D A (pool cy ad 0 82 M) → va_S A s.heap H locs → ∀ (ls : Array Slot), lv_has ls 4 [(0, .ref (ad j0)), (1, .int x1), (2, .int x2), (3, .int x3)] → k5 x2 x3 M = some M' → W p l e ({ frames := 0, cells := 0, slots := 0, locals := 0 } : Room) s m args below meth c H locs 0 0 (MQ below (va_Qv (fun (_ : Unit) => True) (fun _ t => PA D cy ad 0 82 A M' t) A) args s 0 0 A) (F0 m 5 ls [])) {x2 : Int32} {x3 : Int32} {H : Heap} {locs : List Loc} (hP : va_P D vwCl (pool cy ad 0 82 M) H) (hD : va_D A (pool cy ad 0 82 M)) (hS : va_S A s.heap H locs) {ls : Array Slot} (hl : lv_has ls 4 [(0, .ref (ad j0)), (1, .int x1), (2, .int x2), (3, .int x3)]) (h : b_J7_fill_53178_14 N j0 x1 k5 x2 x3 M = some M') : W p l e ({ frames := 0, cells := 0, slots := 0, locals := 0 } : Room) s m args below meth c H locs 0 0 (MQ below (va_Qv (fun (_ : Unit) => True) (fun _ t => PA D cy ad 0 82 A M' t) A) args s 0 0 A) (F0 m 14 ls []) := by
  obtain ⟨hx, hb, hml, hown, hts, hr, hlk, hK, hN, hA, hX⟩ := id C
  unfold b_J7_fill_53178_14 at h
  refine lv_iinc (v := (x2 + (1 : Int32))) (lv' := [(2, .int (x2 + (1 : Int32))), (0, .ref (ad j0)), (1, .int x1), (3, .int x3)]) hx hb dJ7_fill_53178_14 hl (k := 2) rfl rfl (by decide) rfl (fun ls hl => ?_)
  refine lv_goto (tgt := 5) hx hb dJ7_fill_53178_17 (by decide) ?_
  exact hk5 _ _ _ _ _ hP hD hS _ (lv_sub hl [1, 2, 0, 3] rfl) h
def b_J7_fill_53178_5 (N : Nat) (j0 : Nat) (x1 : Int32) : Nat → Int32 → Int32 → Mem → Option (Mem)
  | 0, _, _, _ => none
  | fu + 1, x2, x3, M => (if x3 ≤ x2 then some M else gd (inb x2 (len j0)) (b_J7_fill_53178_14 N j0 x1 (b_J7_fill_53178_5 N j0 x1 fu) x2 x3 (sAI M j0 x2.toNatClampNeg x1)))
set_option maxHeartbeats 4000000 in
set_option maxRecDepth 100000 in
theorem w_J7_fill_53178_5 (C : CX p s m args meth c cJ7_fill_53178 4 none RJ7 D cy ad zz 0 82 A) {N : Nat} {j0 : Nat} (hk_j0 : kd j0 = 7) (hp_j0 : inP 0 82 j0) {x1 : Int32} {M' : Mem}  : ∀ (fu : Nat), ∀ (x2 : Int32), ∀ (x3 : Int32), ∀ (M : Mem), ∀ (H : Heap) (locs : List Loc), va_P D vwCl (pool cy ad 0 82 M) H → va_D A (pool cy ad 0 82 M) → va_S A s.heap H locs → ∀ (ls : Array Slot), lv_has ls 4 [(0, .ref (ad j0)), (1, .int x1), (2, .int x2), (3, .int x3)] → b_J7_fill_53178_5 N j0 x1 fu x2 x3 M = some M' → W p l e ({ frames := 0, cells := 0, slots := 0, locals := 0 } : Room) s m args below meth c H locs 0 0 (MQ below (va_Qv (fun (_ : Unit) => True) (fun _ t => PA D cy ad 0 82 A M' t) A) args s 0 0 A) (F0 m 5 ls []) := by
  obtain ⟨hx, hb, hml, hown, hts, hr, hlk, hK, hN, hA, hX⟩ := id C
  intro fu
  induction fu with
  | zero =>
    intro x2 x3 M H locs hP hD hS ls hl h
    exact no_some (show none = some _ from h)
  | succ fu ih =>
    intro x2 x3 M H locs hP hD hS ls hl h
    rw [b_J7_fill_53178_5] at h
    refine lv_iload_n hx hb dJ7_fill_53178_5 rfl (lv_at hl 2 rfl) ?_
    refine lv_iload_n hx hb dJ7_fill_53178_6 rfl (lv_at hl 3 rfl) ?_
    refine lv_icmp_ge (tgt := 20) hx hb dJ7_fill_53178_7 (by decide) (fun c7 => ?_) (fun c7 => ?_)
    · replace h := it_t c7 h
      exact rt_v C hP hD hS dJ7_fill_53178_20 (Option.some.inj h)
    · replace h := it_f c7 h
      refine lv_aload_n hx hb dJ7_fill_53178_10 rfl (lv_at hl 0 rfl) ?_
      refine lv_iload_n hx hb dJ7_fill_53178_11 rfl (lv_at hl 2 rfl) ?_
      refine lv_iload_n hx hb dJ7_fill_53178_12 rfl (lv_at hl 1 rfl) ?_
      obtain ⟨gi1, h⟩ := gd_of h
      refine ia_st C hP hD hS hp_j0 hk_j0 gi1 dJ7_fill_53178_13 (fun H locs hP hD hS => ?_)
      exact w_J7_fill_53178_14 C hk_j0 hp_j0 ih hP hD hS hl h
def b_J7_fill_53178_0 (N : Nat) (j0 : Nat) (x1 : Int32) (M : Mem) : Option (Mem) := b_J7_fill_53178_5 N j0 x1 N (0 : Int32) (nI (len j0)) M
set_option maxHeartbeats 4000000 in
set_option maxRecDepth 100000 in
theorem w_J7_fill_53178_0 (C : CX p s m args meth c cJ7_fill_53178 4 none RJ7 D cy ad zz 0 82 A) {N : Nat} {M : Mem} {j0 : Nat} (hk_j0 : kd j0 = 7) (hp_j0 : inP 0 82 j0) {x1 : Int32} {M' : Mem} {H : Heap} {locs : List Loc} (hP : va_P D vwCl (pool cy ad 0 82 M) H) (hD : va_D A (pool cy ad 0 82 M)) (hS : va_S A s.heap H locs) {ls : Array Slot} (hl : lv_has ls 4 [(0, .ref (ad j0)), (1, .int x1)]) (h : b_J7_fill_53178_0 N j0 x1 M = some M') : W p l e ({ frames := 0, cells := 0, slots := 0, locals := 0 } : Room) s m args below meth c H locs 0 0 (MQ below (va_Qv (fun (_ : Unit) => True) (fun _ t => PA D cy ad 0 82 A M' t) A) args s 0 0 A) (F0 m 0 ls []) := by
  obtain ⟨hx, hb, hml, hown, hts, hr, hlk, hK, hN, hA, hX⟩ := id C
  unfold b_J7_fill_53178_0 at h
  refine lv_iconst (v := 0) hx hb dJ7_fill_53178_0 (by decide) ?_
  refine lv_istore_n (lv' := [(2, .int (0 : Int32)), (0, .ref (ad j0)), (1, .int x1)]) hx hb dJ7_fill_53178_1 rfl hl (by decide) rfl (fun ls hl => ?_)
  refine lv_aload_n hx hb dJ7_fill_53178_2 rfl (lv_at hl 1 rfl) ?_
  refine al_7 C hP hp_j0 hk_j0 dJ7_fill_53178_3 ?_
  refine lv_istore_n (lv' := [(3, .int (nI (len j0))), (2, .int (0 : Int32)), (0, .ref (ad j0)), (1, .int x1)]) hx hb dJ7_fill_53178_4 rfl hl (by decide) rfl (fun ls hl => ?_)
  exact w_J7_fill_53178_5 C hk_j0 hp_j0 N _ _ _ _ _ hP hD hS _ (lv_sub hl [2, 3, 1, 0] rfl) h
def f_J7_fill_53178 (N : Nat) (j0 : Nat) (x1 : Int32) (M : Mem) : Option (Mem) := b_J7_fill_53178_0 N j0 x1 M
theorem c_J7_fill_53178 {l : Launch} {D : va_G} {cy : Nat → ClassId} {ad : Nat → Nat} {zz : (Nat → Nat) × (Nat → Nat)} {N : Nat} {j0 : Nat} (hk_j0 : kd j0 = 7) (hp_j0 : inP 0 82 j0) {x1 : Int32} {M : Mem} {M' : Mem} (h : f_J7_fill_53178 N j0 x1 M = some M') : CTv l D cy ad zz 0 82 yJ7_fill_53178 (.code yJ7_fill_53178 cJ7_fill_53178 4 none :: tb) ({ frames := 0, cells := 0, slots := 0, locals := 0 } : Room) [.ref (ad j0), .int x1] M M' := by
  intro sz
  refine CX.of (by decide +kernel) (fun p e s m args below meth c H ls C hP hD hS hl => ?_) (Nat.le_of_ble_eq_true rfl)
  exact w_J7_fill_53178_0 C hk_j0 hp_j0 hP hD hS hl h
theorem es_J7_fill_53178 : yJ7_fill_53178.cls ≠ "java/lang/invoke/MethodHandle" ∧ yJ7_fill_53178.cls ≠ "java/lang/invoke/VarHandle" ∧ (parseMethodDescriptor yJ7_fill_53178.desc).map (fun d => d.parameters.length) = some 2 := by decide +kernel
def b_X1_becomeRow_19 (N : Nat) (j0 : Nat) (x1 : Int32) (x2 : Int32) (M : Mem) : Option (Mem) := (f_J7_fill_53178 N (j0 + 4) (0 : Int32) M).bind fun M24 => some M24
set_option maxHeartbeats 4000000 in
set_option maxRecDepth 100000 in
theorem w_X1_becomeRow_19 (C : CX p s m args meth c cX1_becomeRow 3 none RX1 D cy ad zz 0 82 A) {N : Nat} {M : Mem} {j0 : Nat} (hk_j0 : kd j0 = 1) {x1 : Int32} {x2 : Int32} {M' : Mem} {H : Heap} {locs : List Loc} (hP : va_P D vwCl (pool cy ad 0 82 M) H) (hD : va_D A (pool cy ad 0 82 M)) (hS : va_S A s.heap H locs) {ls : Array Slot} (hl : lv_has ls 3 [(0, .ref (ad j0))]) (h : b_X1_becomeRow_19 N j0 x1 x2 M = some M') : W p l e ({ frames := 1, cells := 0, slots := 0, locals := 23 } : Room) s m args below meth c H locs 0 0 (MQ below (va_Qv (fun (_ : Unit) => True) (fun _ t => PA D cy ad 0 82 A M' t) A) args s 0 0 A) (F0 m 19 ls []) := by
  obtain ⟨hx, hb, hml, hown, hts, hr, hlk, hK, hN, hA, hX⟩ := id C
  unfold b_X1_becomeRow_19 at h
  refine lv_aload_n hx hb dX1_becomeRow_19 rfl (lv_at hl 0 rfl) ?_
  refine gf_1_2 C hP (p_1 hk_j0) hk_j0 wd_201 dX1_becomeRow_20 ?_
  refine lv_iconst (v := 0) hx hb dX1_becomeRow_23 (by decide) ?_
  obtain ⟨M24, g24, h⟩ := bd_of h
  refine call_vS (As := [.ref (ad (j0 + 4)), .int (0 : Int32)]) (rest := []) C hP hD hS (c_J7_fill_53178 (k_1_2 hk_j0) (p_1_2 hk_j0) g24) (gS wd_768 wd_769 wd_78 wd_770) es_J7_fill_53178 ⟨rfl, rfl⟩ ⟨Nat.le_of_ble_eq_true rfl, Nat.le_of_ble_eq_true rfl⟩ hl.1 rfl (Nat.le_of_ble_eq_true rfl) dX1_becomeRow_24 (fun H locs hP hD hS => ?_)
  exact rt_v C hP hD hS dX1_becomeRow_27 (Option.some.inj h)
def b_X1_becomeRow_5 (N : Nat) (j0 : Nat) (x1 : Int32) (x2 : Int32) (M : Mem) : Option (Mem) := b_X1_becomeRow_19 N j0 x1 x2 (sFI M j0 1 (if (0 : Int32) < (if x2 < (40 : Int32) then x2 else (40 : Int32)) then (if x2 < (40 : Int32) then x2 else (40 : Int32)) else (0 : Int32)))
set_option maxHeartbeats 4000000 in
set_option maxRecDepth 100000 in
theorem w_X1_becomeRow_5 (C : CX p s m args meth c cX1_becomeRow 3 none RX1 D cy ad zz 0 82 A) {N : Nat} {M : Mem} {j0 : Nat} (hk_j0 : kd j0 = 1) {x1 : Int32} {x2 : Int32} {M' : Mem} {H : Heap} {locs : List Loc} (hP : va_P D vwCl (pool cy ad 0 82 M) H) (hD : va_D A (pool cy ad 0 82 M)) (hS : va_S A s.heap H locs) {ls : Array Slot} (hl : lv_has ls 3 [(0, .ref (ad j0)), (2, .int x2)]) (h : b_X1_becomeRow_5 N j0 x1 x2 M = some M') : W p l e ({ frames := 1, cells := 0, slots := 0, locals := 23 } : Room) s m args below meth c H locs 0 0 (MQ below (va_Qv (fun (_ : Unit) => True) (fun _ t => PA D cy ad 0 82 A M' t) A) args s 0 0 A) (F0 m 5 ls []) := by
  obtain ⟨hx, hb, hml, hown, hts, hr, hlk, hK, hN, hA, hX⟩ := id C
  unfold b_X1_becomeRow_5 at h
  refine lv_aload_n hx hb dX1_becomeRow_5 rfl (lv_at hl 0 rfl) ?_
  refine lv_iconst (v := 0) hx hb dX1_becomeRow_6 (by decide) ?_
  refine lv_bipush (v := 40) hx hb dX1_becomeRow_7 (by decide) ?_
  refine lv_iload_n hx hb dX1_becomeRow_9 rfl (lv_at hl 1 rfl) ?_
  refine va_mmin hx hb (hml.trans hl.1.symm) hown (hts _ wd_766) (hts _ wd_222) (hts _ wd_70) (hts _ wd_223) (Nat.le_of_ble_eq_true rfl) (Nat.le_of_ble_eq_true rfl) (Nat.zero_le _) (Nat.zero_le _) dX1_becomeRow_10 ?_
  refine va_mmax hx hb (hml.trans hl.1.symm) hown (hts _ wd_767) (hts _ wd_473) (hts _ wd_70) (hts _ wd_474) (Nat.le_of_ble_eq_true rfl) (Nat.le_of_ble_eq_true rfl) (Nat.zero_le _) (Nat.zero_le _) dX1_becomeRow_13 ?_
  refine pf_1_1 C hP hD hS (p_1 hk_j0) hk_j0 wd_198 dX1_becomeRow_16 (fun H locs hP hD hS => ?_)
  exact w_X1_becomeRow_19 C hk_j0 hP hD hS (lv_sub hl [0] rfl) h
def b_X1_becomeRow_0 (N : Nat) (j0 : Nat) (x1 : Int32) (x2 : Int32) (M : Mem) : Option (Mem) := b_X1_becomeRow_5 N j0 x1 x2 (sFI M j0 0 x1)
set_option maxHeartbeats 4000000 in
set_option maxRecDepth 100000 in
theorem w_X1_becomeRow_0 (C : CX p s m args meth c cX1_becomeRow 3 none RX1 D cy ad zz 0 82 A) {N : Nat} {M : Mem} {j0 : Nat} (hk_j0 : kd j0 = 1) {x1 : Int32} {x2 : Int32} {M' : Mem} {H : Heap} {locs : List Loc} (hP : va_P D vwCl (pool cy ad 0 82 M) H) (hD : va_D A (pool cy ad 0 82 M)) (hS : va_S A s.heap H locs) {ls : Array Slot} (hl : lv_has ls 3 [(0, .ref (ad j0)), (1, .int x1), (2, .int x2)]) (h : b_X1_becomeRow_0 N j0 x1 x2 M = some M') : W p l e ({ frames := 1, cells := 0, slots := 0, locals := 23 } : Room) s m args below meth c H locs 0 0 (MQ below (va_Qv (fun (_ : Unit) => True) (fun _ t => PA D cy ad 0 82 A M' t) A) args s 0 0 A) (F0 m 0 ls []) := by
  obtain ⟨hx, hb, hml, hown, hts, hr, hlk, hK, hN, hA, hX⟩ := id C
  unfold b_X1_becomeRow_0 at h
  refine lv_aload_n hx hb dX1_becomeRow_0 rfl (lv_at hl 0 rfl) ?_
  refine lv_iload_n hx hb dX1_becomeRow_1 rfl (lv_at hl 1 rfl) ?_
  refine pf_1_0 C hP hD hS (p_1 hk_j0) hk_j0 wd_196 dX1_becomeRow_2 (fun H locs hP hD hS => ?_)
  exact w_X1_becomeRow_5 C hk_j0 hP hD hS (lv_sub hl [0, 2] rfl) h
def f_X1_becomeRow (N : Nat) (j0 : Nat) (x1 : Int32) (x2 : Int32) (M : Mem) : Option (Mem) := b_X1_becomeRow_0 N j0 x1 x2 M
theorem c_X1_becomeRow {l : Launch} {D : va_G} {cy : Nat → ClassId} {ad : Nat → Nat} {zz : (Nat → Nat) × (Nat → Nat)} {N : Nat} {j0 : Nat} (hk_j0 : kd j0 = 1) {x1 : Int32} {x2 : Int32} {M : Mem} {M' : Mem} (h : f_X1_becomeRow N j0 x1 x2 M = some M') : CTv l D cy ad zz 0 82 yX1_becomeRow (.code yX1_becomeRow cX1_becomeRow 3 none :: tb) ({ frames := 1, cells := 0, slots := 0, locals := 23 } : Room) [.ref (ad j0), .int x1, .int x2] M M' := by
  intro sz
  refine CX.of (by decide +kernel) (fun p e s m args below meth c H ls C hP hD hS hl => ?_) (Nat.le_of_ble_eq_true rfl)
  exact w_X1_becomeRow_0 C hk_j0 hP hD hS hl h
theorem ev_X1_becomeRow : yX1_becomeRow.cls = RX1 ∧ yX1_becomeRow.cls ≠ "java/lang/invoke/MethodHandle" ∧ yX1_becomeRow.cls ≠ "java/lang/invoke/VarHandle" ∧ (parseMethodDescriptor yX1_becomeRow.desc).map (fun d => d.parameters.length) = some 2 := by decide +kernel
def b_X1_has_0 (M : Mem) (j0 : Nat) (x1 : Int32) : Option (Bool) := (if x1 < 0 then some false else (if (FI M j0 1) ≤ x1 then some false else (if (40 : Int32) ≤ x1 then some false else some true)))
set_option maxHeartbeats 4000000 in
set_option maxRecDepth 100000 in
theorem w_X1_has_0 (C : CX p s m args meth c cX1_has 2 (some .boolean) RX1 D cy ad zz 0 82 A) {M : Mem} {j0 : Nat} (hk_j0 : kd j0 = 1) {x1 : Int32} {rr : Bool} {H : Heap} {locs : List Loc} (hP : va_P D vwCl (pool cy ad 0 82 M) H) (hD : va_D A (pool cy ad 0 82 M)) (hS : va_S A s.heap H locs) {ls : Array Slot} (hl : lv_has ls 2 [(0, .ref (ad j0)), (1, .int x1)]) (h : b_X1_has_0 M j0 x1 = some rr) : W p l e ({ frames := 0, cells := 0, slots := 0, locals := 0 } : Room) s m args below meth c H locs 0 0 (MQ below (va_Qi (fun (x : Int32) (_ : Unit) => x = b2i rr) (fun _ t => PA D cy ad 0 82 A M t) A) args s 0 0 A) (F0 m 0 ls []) := by
  obtain ⟨hx, hb, hml, hown, hts, hr, hlk, hK, hN, hA, hX⟩ := id C
  unfold b_X1_has_0 at h
  refine lv_iload_n hx hb dX1_has_0 rfl (lv_at hl 1 rfl) ?_
  refine lv_if_lt (tgt := 22) hx hb dX1_has_1 (by decide) (fun c1 => ?_) (fun c1 => ?_)
  · replace h := it_t c1 h
    refine lv_iconst (v := 0) hx hb dX1_has_22 (by decide) ?_
    exact rt_z (r := false) C hP hD hS dX1_has_23 ⟨Option.some.inj h, rfl⟩
  · replace h := it_f c1 h
    refine lv_iload_n hx hb dX1_has_4 rfl (lv_at hl 1 rfl) ?_
    refine lv_aload_n hx hb dX1_has_5 rfl (lv_at hl 0 rfl) ?_
    refine gf_1_1 C hP (p_1 hk_j0) hk_j0 wd_198 dX1_has_6 ?_
    refine lv_icmp_ge (tgt := 22) hx hb dX1_has_9 (by decide) (fun c9 => ?_) (fun c9 => ?_)
    · replace h := it_t c9 h
      refine lv_iconst (v := 0) hx hb dX1_has_22 (by decide) ?_
      exact rt_z (r := false) C hP hD hS dX1_has_23 ⟨Option.some.inj h, rfl⟩
    · replace h := it_f c9 h
      refine lv_iload_n hx hb dX1_has_12 rfl (lv_at hl 1 rfl) ?_
      refine lv_bipush (v := 40) hx hb dX1_has_13 (by decide) ?_
      refine lv_icmp_ge (tgt := 22) hx hb dX1_has_15 (by decide) (fun c15 => ?_) (fun c15 => ?_)
      · replace h := it_t c15 h
        refine lv_iconst (v := 0) hx hb dX1_has_22 (by decide) ?_
        exact rt_z (r := false) C hP hD hS dX1_has_23 ⟨Option.some.inj h, rfl⟩
      · replace h := it_f c15 h
        refine lv_iconst (v := 1) hx hb dX1_has_18 (by decide) ?_
        refine lv_goto (tgt := 23) hx hb dX1_has_19 (by decide) ?_
        exact rt_z (r := true) C hP hD hS dX1_has_23 ⟨Option.some.inj h, rfl⟩
def f_X1_has (j0 : Nat) (x1 : Int32) (M : Mem) : Option (Bool) := b_X1_has_0 M j0 x1
theorem c_X1_has {l : Launch} {D : va_G} {cy : Nat → ClassId} {ad : Nat → Nat} {zz : (Nat → Nat) × (Nat → Nat)} {j0 : Nat} (hk_j0 : kd j0 = 1) {x1 : Int32} {M : Mem} {rr : Bool} (h : f_X1_has j0 x1 M = some rr) : CTi l D cy ad zz 0 82 yX1_has (.code yX1_has cX1_has 2 (some .boolean) :: tb) ({ frames := 0, cells := 0, slots := 0, locals := 0 } : Room) [.ref (ad j0), .int x1] M (b2i rr) M := by
  intro sz
  refine CX.of (by decide +kernel) (fun p e s m args below meth c H ls C hP hD hS hl => ?_) (Nat.le_of_ble_eq_true rfl)
  exact w_X1_has_0 C hk_j0 hP hD hS hl h
theorem ev_X1_has : yX1_has.cls = RX1 ∧ yX1_has.cls ≠ "java/lang/invoke/MethodHandle" ∧ yX1_has.cls ≠ "java/lang/invoke/VarHandle" ∧ (parseMethodDescriptor yX1_has.desc).map (fun d => d.parameters.length) = some 1 := by decide +kernel
def b_X1_hasRun_0 (M : Mem) (j0 : Nat) (x1 : Int32) (x2 : Int32) : Option (Bool) := (if x1 < 0 then some false else (if x2 < 0 then some false else (if (FI M j0 1) < x1 then some false else (if ((FI M j0 1) - x1) < x2 then some false else some true))))
set_option maxHeartbeats 4000000 in
set_option maxRecDepth 100000 in
theorem w_X1_hasRun_0 (C : CX p s m args meth c cX1_hasRun 3 (some .boolean) RX1 D cy ad zz 0 82 A) {M : Mem} {j0 : Nat} (hk_j0 : kd j0 = 1) {x1 : Int32} {x2 : Int32} {rr : Bool} {H : Heap} {locs : List Loc} (hP : va_P D vwCl (pool cy ad 0 82 M) H) (hD : va_D A (pool cy ad 0 82 M)) (hS : va_S A s.heap H locs) {ls : Array Slot} (hl : lv_has ls 3 [(0, .ref (ad j0)), (1, .int x1), (2, .int x2)]) (h : b_X1_hasRun_0 M j0 x1 x2 = some rr) : W p l e ({ frames := 0, cells := 0, slots := 0, locals := 0 } : Room) s m args below meth c H locs 0 0 (MQ below (va_Qi (fun (x : Int32) (_ : Unit) => x = b2i rr) (fun _ t => PA D cy ad 0 82 A M t) A) args s 0 0 A) (F0 m 0 ls []) := by
  obtain ⟨hx, hb, hml, hown, hts, hr, hlk, hK, hN, hA, hX⟩ := id C
  unfold b_X1_hasRun_0 at h
  refine lv_iload_n hx hb dX1_hasRun_0 rfl (lv_at hl 1 rfl) ?_
  refine lv_if_lt (tgt := 30) hx hb dX1_hasRun_1 (by decide) (fun c1 => ?_) (fun c1 => ?_)
  · replace h := it_t c1 h
    refine lv_iconst (v := 0) hx hb dX1_hasRun_30 (by decide) ?_
    exact rt_z (r := false) C hP hD hS dX1_hasRun_31 ⟨Option.some.inj h, rfl⟩
  · replace h := it_f c1 h
    refine lv_iload_n hx hb dX1_hasRun_4 rfl (lv_at hl 2 rfl) ?_
    refine lv_if_lt (tgt := 30) hx hb dX1_hasRun_5 (by decide) (fun c5 => ?_) (fun c5 => ?_)
    · replace h := it_t c5 h
      refine lv_iconst (v := 0) hx hb dX1_hasRun_30 (by decide) ?_
      exact rt_z (r := false) C hP hD hS dX1_hasRun_31 ⟨Option.some.inj h, rfl⟩
    · replace h := it_f c5 h
      refine lv_iload_n hx hb dX1_hasRun_8 rfl (lv_at hl 1 rfl) ?_
      refine lv_aload_n hx hb dX1_hasRun_9 rfl (lv_at hl 0 rfl) ?_
      refine gf_1_1 C hP (p_1 hk_j0) hk_j0 wd_198 dX1_hasRun_10 ?_
      refine lv_icmp_gt (tgt := 30) hx hb dX1_hasRun_13 (by decide) (fun c13 => ?_) (fun c13 => ?_)
      · replace h := it_t c13 h
        refine lv_iconst (v := 0) hx hb dX1_hasRun_30 (by decide) ?_
        exact rt_z (r := false) C hP hD hS dX1_hasRun_31 ⟨Option.some.inj h, rfl⟩
      · replace h := it_f c13 h
        refine lv_iload_n hx hb dX1_hasRun_16 rfl (lv_at hl 2 rfl) ?_
        refine lv_aload_n hx hb dX1_hasRun_17 rfl (lv_at hl 0 rfl) ?_
        refine gf_1_1 C hP (p_1 hk_j0) hk_j0 wd_198 dX1_hasRun_18 ?_
        refine lv_iload_n hx hb dX1_hasRun_21 rfl (lv_at hl 1 rfl) ?_
        refine lv_isub hx hb dX1_hasRun_22 ?_
        refine lv_icmp_gt (tgt := 30) hx hb dX1_hasRun_23 (by decide) (fun c23 => ?_) (fun c23 => ?_)
        · replace h := it_t c23 h
          refine lv_iconst (v := 0) hx hb dX1_hasRun_30 (by decide) ?_
          exact rt_z (r := false) C hP hD hS dX1_hasRun_31 ⟨Option.some.inj h, rfl⟩
        · replace h := it_f c23 h
          refine lv_iconst (v := 1) hx hb dX1_hasRun_26 (by decide) ?_
          refine lv_goto (tgt := 31) hx hb dX1_hasRun_27 (by decide) ?_
          exact rt_z (r := true) C hP hD hS dX1_hasRun_31 ⟨Option.some.inj h, rfl⟩
def f_X1_hasRun (j0 : Nat) (x1 : Int32) (x2 : Int32) (M : Mem) : Option (Bool) := b_X1_hasRun_0 M j0 x1 x2
theorem c_X1_hasRun {l : Launch} {D : va_G} {cy : Nat → ClassId} {ad : Nat → Nat} {zz : (Nat → Nat) × (Nat → Nat)} {j0 : Nat} (hk_j0 : kd j0 = 1) {x1 : Int32} {x2 : Int32} {M : Mem} {rr : Bool} (h : f_X1_hasRun j0 x1 x2 M = some rr) : CTi l D cy ad zz 0 82 yX1_hasRun (.code yX1_hasRun cX1_hasRun 3 (some .boolean) :: tb) ({ frames := 0, cells := 0, slots := 0, locals := 0 } : Room) [.ref (ad j0), .int x1, .int x2] M (b2i rr) M := by
  intro sz
  refine CX.of (by decide +kernel) (fun p e s m args below meth c H ls C hP hD hS hl => ?_) (Nat.le_of_ble_eq_true rfl)
  exact w_X1_hasRun_0 C hk_j0 hP hD hS hl h
theorem ev_X1_hasRun : yX1_hasRun.cls = RX1 ∧ yX1_hasRun.cls ≠ "java/lang/invoke/MethodHandle" ∧ yX1_hasRun.cls ≠ "java/lang/invoke/VarHandle" ∧ (parseMethodDescriptor yX1_hasRun.desc).map (fun d => d.parameters.length) = some 2 := by decide +kernel
def b_X1_read_0 (M : Mem) (j0 : Nat) (x1 : Int32) : Option (Int32) := (f_X1_has j0 x1 M).bind fun r2 => (if r2 = true then gd (inb x1 (len (j0 + 4))) (some (AI M (j0 + 4) x1.toNatClampNeg)) else some (0 : Int32))
set_option maxHeartbeats 4000000 in
set_option maxRecDepth 100000 in
theorem w_X1_read_0 (C : CX p s m args meth c cX1_read 2 (some .int) RX1 D cy ad zz 0 82 A) {M : Mem} {j0 : Nat} (hk_j0 : kd j0 = 1) {x1 : Int32} {rr : Int32} {H : Heap} {locs : List Loc} (hP : va_P D vwCl (pool cy ad 0 82 M) H) (hD : va_D A (pool cy ad 0 82 M)) (hS : va_S A s.heap H locs) {ls : Array Slot} (hl : lv_has ls 2 [(0, .ref (ad j0)), (1, .int x1)]) (h : b_X1_read_0 M j0 x1 = some rr) : W p l e ({ frames := 1, cells := 0, slots := 0, locals := 21 } : Room) s m args below meth c H locs 0 0 (MQ below (va_Qi (fun (x : Int32) (_ : Unit) => x = rr) (fun _ t => PA D cy ad 0 82 A M t) A) args s 0 0 A) (F0 m 0 ls []) := by
  obtain ⟨hx, hb, hml, hown, hts, hr, hlk, hK, hN, hA, hX⟩ := id C
  unfold b_X1_read_0 at h
  refine lv_aload_n hx hb dX1_read_0 rfl (lv_at hl 0 rfl) ?_
  refine lv_iload_n hx hb dX1_read_1 rfl (lv_at hl 1 rfl) ?_
  obtain ⟨r2, g2, h⟩ := bd_of h
  refine call_iV (As := [.int x1]) (rest := []) C hP hD hS (c_X1_has hk_j0 g2) (p_1 hk_j0) ⟨1, _, _, ent_1 hk_j0, rfl, rfl⟩ (gV wd_567 wd_568 wd_569 wd_68 wd_570) ev_X1_has ⟨rfl, rfl⟩ ⟨Nat.le_of_ble_eq_true rfl, Nat.le_of_ble_eq_true rfl⟩ hl.1 rfl (Nat.le_of_ble_eq_true rfl) dX1_read_2 (fun H locs hP hD hS => ?_)
  refine lv_if_eq (tgt := 17) hx hb dX1_read_5 (by decide) (fun c5 => ?_) (fun c5 => ?_)
  · replace h := it_f (b2i_n c5) h
    refine lv_iconst (v := 0) hx hb dX1_read_17 (by decide) ?_
    exact rt_i (r := (0 : Int32)) C hP hD hS dX1_read_18 ⟨Option.some.inj h, rfl⟩
  · replace h := it_t (b2i_1 c5) h
    refine lv_aload_n hx hb dX1_read_8 rfl (lv_at hl 0 rfl) ?_
    refine gf_1_2 C hP (p_1 hk_j0) hk_j0 wd_201 dX1_read_9 ?_
    refine lv_iload_n hx hb dX1_read_12 rfl (lv_at hl 1 rfl) ?_
    obtain ⟨gi1, h⟩ := gd_of h
    refine ia_ld C hP (p_1_2 hk_j0) (k_1_2 hk_j0) gi1 dX1_read_13 ?_
    refine lv_goto (tgt := 18) hx hb dX1_read_14 (by decide) ?_
    exact rt_i (r := (AI M (j0 + 4) x1.toNatClampNeg)) C hP hD hS dX1_read_18 ⟨Option.some.inj h, rfl⟩
def f_X1_read (j0 : Nat) (x1 : Int32) (M : Mem) : Option (Int32) := b_X1_read_0 M j0 x1
theorem c_X1_read {l : Launch} {D : va_G} {cy : Nat → ClassId} {ad : Nat → Nat} {zz : (Nat → Nat) × (Nat → Nat)} {j0 : Nat} (hk_j0 : kd j0 = 1) {x1 : Int32} {M : Mem} {rr : Int32} (h : f_X1_read j0 x1 M = some rr) : CTi l D cy ad zz 0 82 yX1_read (.code yX1_read cX1_read 2 (some .int) :: tb) ({ frames := 1, cells := 0, slots := 0, locals := 21 } : Room) [.ref (ad j0), .int x1] M rr M := by
  intro sz
  refine CX.of (by decide +kernel) (fun p e s m args below meth c H ls C hP hD hS hl => ?_) (Nat.le_of_ble_eq_true rfl)
  exact w_X1_read_0 C hk_j0 hP hD hS hl h
theorem ev_X1_read : yX1_read.cls = RX1 ∧ yX1_read.cls ≠ "java/lang/invoke/MethodHandle" ∧ yX1_read.cls ≠ "java/lang/invoke/VarHandle" ∧ (parseMethodDescriptor yX1_read.desc).map (fun d => d.parameters.length) = some 1 := by decide +kernel
def b_X1_write_39 (j0 : Nat) (x1 : Int32) (x2 : Int32) (t1 : Int32) (t2 : Int32) (M : Mem) : Option (Mem) := gd (inb t1 (len (j0 + 4))) (some (sAI M (j0 + 4) t1.toNatClampNeg t2))
set_option maxHeartbeats 4000000 in
set_option maxRecDepth 100000 in
theorem w_X1_write_39 (C : CX p s m args meth c cX1_write 3 none RX1 D cy ad zz 0 82 A) {M : Mem} {j0 : Nat} (hk_j0 : kd j0 = 1) {x1 : Int32} {x2 : Int32} {M' : Mem} {t1 : Int32} {t2 : Int32} {H : Heap} {locs : List Loc} (hP : va_P D vwCl (pool cy ad 0 82 M) H) (hD : va_D A (pool cy ad 0 82 M)) (hS : va_S A s.heap H locs) {ls : Array Slot} (hl : lv_has ls 3 []) (h : b_X1_write_39 j0 x1 x2 t1 t2 M = some M') : W p l e ({ frames := 1, cells := 0, slots := 0, locals := 21 } : Room) s m args below meth c H locs 0 0 (MQ below (va_Qv (fun (_ : Unit) => True) (fun _ t => PA D cy ad 0 82 A M' t) A) args s 0 0 A) (F0 m 39 ls [.int t2, .int t1, .ref (ad (j0 + 4))]) := by
  obtain ⟨hx, hb, hml, hown, hts, hr, hlk, hK, hN, hA, hX⟩ := id C
  unfold b_X1_write_39 at h
  obtain ⟨gi1, h⟩ := gd_of h
  refine ia_st C hP hD hS (p_1_2 hk_j0) (k_1_2 hk_j0) gi1 dX1_write_39 (fun H locs hP hD hS => ?_)
  exact rt_v C hP hD hS dX1_write_40 (Option.some.inj h)
def b_X1_write_0 (j0 : Nat) (x1 : Int32) (x2 : Int32) (M : Mem) : Option (Mem) := (f_X1_has j0 x1 M).bind fun r2 => (if r2 = true then (if (FI M j0 0) = 0 then b_X1_write_39 j0 x1 x2 x1 (x2.toInt8.toInt32) M else (if (FI M j0 0) = (1 : Int32) then b_X1_write_39 j0 x1 x2 x1 (x2.toInt16.toInt32) M else b_X1_write_39 j0 x1 x2 x1 x2 M)) else some M)
set_option maxHeartbeats 4000000 in
set_option maxRecDepth 100000 in
theorem w_X1_write_0 (C : CX p s m args meth c cX1_write 3 none RX1 D cy ad zz 0 82 A) {M : Mem} {j0 : Nat} (hk_j0 : kd j0 = 1) {x1 : Int32} {x2 : Int32} {M' : Mem} {H : Heap} {locs : List Loc} (hP : va_P D vwCl (pool cy ad 0 82 M) H) (hD : va_D A (pool cy ad 0 82 M)) (hS : va_S A s.heap H locs) {ls : Array Slot} (hl : lv_has ls 3 [(0, .ref (ad j0)), (1, .int x1), (2, .int x2)]) (h : b_X1_write_0 j0 x1 x2 M = some M') : W p l e ({ frames := 1, cells := 0, slots := 0, locals := 21 } : Room) s m args below meth c H locs 0 0 (MQ below (va_Qv (fun (_ : Unit) => True) (fun _ t => PA D cy ad 0 82 A M' t) A) args s 0 0 A) (F0 m 0 ls []) := by
  obtain ⟨hx, hb, hml, hown, hts, hr, hlk, hK, hN, hA, hX⟩ := id C
  unfold b_X1_write_0 at h
  refine lv_aload_n hx hb dX1_write_0 rfl (lv_at hl 0 rfl) ?_
  refine lv_iload_n hx hb dX1_write_1 rfl (lv_at hl 1 rfl) ?_
  obtain ⟨r2, g2, h⟩ := bd_of h
  refine call_iV (As := [.int x1]) (rest := []) C hP hD hS (c_X1_has hk_j0 g2) (p_1 hk_j0) ⟨1, _, _, ent_1 hk_j0, rfl, rfl⟩ (gV wd_567 wd_568 wd_569 wd_68 wd_570) ev_X1_has ⟨rfl, rfl⟩ ⟨Nat.le_of_ble_eq_true rfl, Nat.le_of_ble_eq_true rfl⟩ hl.1 rfl (Nat.le_of_ble_eq_true rfl) dX1_write_2 (fun H locs hP hD hS => ?_)
  refine lv_if_eq (tgt := 40) hx hb dX1_write_5 (by decide) (fun c5 => ?_) (fun c5 => ?_)
  · replace h := it_f (b2i_n c5) h
    exact rt_v C hP hD hS dX1_write_40 (Option.some.inj h)
  · replace h := it_t (b2i_1 c5) h
    refine lv_aload_n hx hb dX1_write_8 rfl (lv_at hl 0 rfl) ?_
    refine gf_1_2 C hP (p_1 hk_j0) hk_j0 wd_201 dX1_write_9 ?_
    refine lv_iload_n hx hb dX1_write_12 rfl (lv_at hl 1 rfl) ?_
    refine lv_aload_n hx hb dX1_write_13 rfl (lv_at hl 0 rfl) ?_
    refine gf_1_0 C hP (p_1 hk_j0) hk_j0 wd_196 dX1_write_14 ?_
    refine lv_if_ne (tgt := 25) hx hb dX1_write_17 (by decide) (fun c17 => ?_) (fun c17 => ?_)
    · replace h := it_f c17 h
      refine lv_aload_n hx hb dX1_write_25 rfl (lv_at hl 0 rfl) ?_
      refine gf_1_0 C hP (p_1 hk_j0) hk_j0 wd_196 dX1_write_26 ?_
      refine lv_iconst (v := 1) hx hb dX1_write_29 (by decide) ?_
      refine lv_icmp_ne (tgt := 38) hx hb dX1_write_30 (by decide) (fun c30 => ?_) (fun c30 => ?_)
      · replace h := it_f c30 h
        refine lv_iload_n hx hb dX1_write_38 rfl (lv_at hl 2 rfl) ?_
        exact w_X1_write_39 C hk_j0 hP hD hS (lv_sub hl [] rfl) h
      · replace h := it_t c30 h
        refine lv_iload_n hx hb dX1_write_33 rfl (lv_at hl 2 rfl) ?_
        refine lv_i2s (v := (x2.toInt16.toInt32)) hx hb dX1_write_34 rfl ?_
        refine lv_goto (tgt := 39) hx hb dX1_write_35 (by decide) ?_
        exact w_X1_write_39 C hk_j0 hP hD hS (lv_sub hl [] rfl) h
    · replace h := it_t c17 h
      refine lv_iload_n hx hb dX1_write_20 rfl (lv_at hl 2 rfl) ?_
      refine lv_i2b (v := (x2.toInt8.toInt32)) hx hb dX1_write_21 rfl ?_
      refine lv_goto (tgt := 39) hx hb dX1_write_22 (by decide) ?_
      exact w_X1_write_39 C hk_j0 hP hD hS (lv_sub hl [] rfl) h
def f_X1_write (j0 : Nat) (x1 : Int32) (x2 : Int32) (M : Mem) : Option (Mem) := b_X1_write_0 j0 x1 x2 M
theorem c_X1_write {l : Launch} {D : va_G} {cy : Nat → ClassId} {ad : Nat → Nat} {zz : (Nat → Nat) × (Nat → Nat)} {j0 : Nat} (hk_j0 : kd j0 = 1) {x1 : Int32} {x2 : Int32} {M : Mem} {M' : Mem} (h : f_X1_write j0 x1 x2 M = some M') : CTv l D cy ad zz 0 82 yX1_write (.code yX1_write cX1_write 3 none :: tb) ({ frames := 1, cells := 0, slots := 0, locals := 21 } : Room) [.ref (ad j0), .int x1, .int x2] M M' := by
  intro sz
  refine CX.of (by decide +kernel) (fun p e s m args below meth c H ls C hP hD hS hl => ?_) (Nat.le_of_ble_eq_true rfl)
  exact w_X1_write_0 C hk_j0 hP hD hS hl h
theorem ev_X1_write : yX1_write.cls = RX1 ∧ yX1_write.cls ≠ "java/lang/invoke/MethodHandle" ∧ yX1_write.cls ≠ "java/lang/invoke/VarHandle" ∧ (parseMethodDescriptor yX1_write.desc).map (fun d => d.parameters.length) = some 2 := by decide +kernel
def b_X1_isSock_21 (N : Nat) (M : Mem) (j0 : Nat) : Nat → Int32 → Option (Bool)
  | 0, _ => none
  | fu + 1, x1 => (if (FI M j0 1) ≤ x1 then some true else (f_X1_read j0 x1 M).bind fun r31 => (if r31 < 0 then some false else (f_X1_read j0 x1 M).bind fun r39 => (if r39 < (5 : Int32) then b_X1_isSock_21 N M j0 fu (x1 + (1 : Int32)) else some false)))
set_option maxHeartbeats 4000000 in
set_option maxRecDepth 100000 in
theorem w_X1_isSock_21 (C : CX p s m args meth c cX1_isSock 2 (some .boolean) RX1 D cy ad zz 0 82 A) {N : Nat} {M : Mem} {j0 : Nat} (hk_j0 : kd j0 = 1) {rr : Bool}  : ∀ (fu : Nat), ∀ (x1 : Int32), ∀ (H : Heap) (locs : List Loc), va_P D vwCl (pool cy ad 0 82 M) H → va_D A (pool cy ad 0 82 M) → va_S A s.heap H locs → ∀ (ls : Array Slot), lv_has ls 2 [(0, .ref (ad j0)), (1, .int x1)] → b_X1_isSock_21 N M j0 fu x1 = some rr → W p l e ({ frames := 2, cells := 0, slots := 0, locals := 42 } : Room) s m args below meth c H locs 0 0 (MQ below (va_Qi (fun (x : Int32) (_ : Unit) => x = b2i rr) (fun _ t => PA D cy ad 0 82 A M t) A) args s 0 0 A) (F0 m 21 ls []) := by
  obtain ⟨hx, hb, hml, hown, hts, hr, hlk, hK, hN, hA, hX⟩ := id C
  intro fu
  induction fu with
  | zero =>
    intro x1 H locs hP hD hS ls hl h
    exact no_some (show none = some _ from h)
  | succ fu ih =>
    intro x1 H locs hP hD hS ls hl h
    rw [b_X1_isSock_21] at h
    refine lv_iload_n hx hb dX1_isSock_21 rfl (lv_at hl 1 rfl) ?_
    refine lv_aload_n hx hb dX1_isSock_22 rfl (lv_at hl 0 rfl) ?_
    refine gf_1_1 C hP (p_1 hk_j0) hk_j0 wd_198 dX1_isSock_23 ?_
    refine lv_icmp_ge (tgt := 54) hx hb dX1_isSock_26 (by decide) (fun c26 => ?_) (fun c26 => ?_)
    · replace h := it_t c26 h
      refine lv_iconst (v := 1) hx hb dX1_isSock_54 (by decide) ?_
      exact rt_z (r := true) C hP hD hS dX1_isSock_55 ⟨Option.some.inj h, rfl⟩
    · replace h := it_f c26 h
      refine lv_aload_n hx hb dX1_isSock_29 rfl (lv_at hl 0 rfl) ?_
      refine lv_iload_n hx hb dX1_isSock_30 rfl (lv_at hl 1 rfl) ?_
      obtain ⟨r31, g31, h⟩ := bd_of h
      refine call_iV (As := [.int x1]) (rest := []) C hP hD hS (c_X1_read hk_j0 g31) (p_1 hk_j0) ⟨1, _, _, ent_1 hk_j0, rfl, rfl⟩ (gV wd_563 wd_564 wd_565 wd_68 wd_566) ev_X1_read ⟨rfl, rfl⟩ ⟨Nat.le_of_ble_eq_true rfl, Nat.le_of_ble_eq_true rfl⟩ hl.1 rfl (Nat.le_of_ble_eq_true rfl) dX1_isSock_31 (fun H locs hP hD hS => ?_)
      refine lv_if_lt (tgt := 46) hx hb dX1_isSock_34 (by decide) (fun c34 => ?_) (fun c34 => ?_)
      · replace h := it_t c34 h
        refine lv_iconst (v := 0) hx hb dX1_isSock_46 (by decide) ?_
        exact rt_z (r := false) C hP hD hS dX1_isSock_47 ⟨Option.some.inj h, rfl⟩
      · replace h := it_f c34 h
        refine lv_aload_n hx hb dX1_isSock_37 rfl (lv_at hl 0 rfl) ?_
        refine lv_iload_n hx hb dX1_isSock_38 rfl (lv_at hl 1 rfl) ?_
        obtain ⟨r39, g39, h⟩ := bd_of h
        refine call_iV (As := [.int x1]) (rest := []) C hP hD hS (c_X1_read hk_j0 g39) (p_1 hk_j0) ⟨1, _, _, ent_1 hk_j0, rfl, rfl⟩ (gV wd_563 wd_564 wd_565 wd_68 wd_566) ev_X1_read ⟨rfl, rfl⟩ ⟨Nat.le_of_ble_eq_true rfl, Nat.le_of_ble_eq_true rfl⟩ hl.1 rfl (Nat.le_of_ble_eq_true rfl) dX1_isSock_39 (fun H locs hP hD hS => ?_)
        refine lv_iconst (v := 5) hx hb dX1_isSock_42 (by decide) ?_
        refine lv_icmp_lt (tgt := 48) hx hb dX1_isSock_43 (by decide) (fun c43 => ?_) (fun c43 => ?_)
        · replace h := it_t c43 h
          refine lv_iinc (v := (x1 + (1 : Int32))) (lv' := [(1, .int (x1 + (1 : Int32))), (0, .ref (ad j0))]) hx hb dX1_isSock_48 hl (k := 1) rfl rfl (by decide) rfl (fun ls hl => ?_)
          refine lv_goto (tgt := 21) hx hb dX1_isSock_51 (by decide) ?_
          exact ih _ _ _ hP hD hS _ (lv_sub hl [1, 0] rfl) h
        · replace h := it_f c43 h
          refine lv_iconst (v := 0) hx hb dX1_isSock_46 (by decide) ?_
          exact rt_z (r := false) C hP hD hS dX1_isSock_47 ⟨Option.some.inj h, rfl⟩
def b_X1_isSock_0 (N : Nat) (M : Mem) (j0 : Nat) : Option (Bool) := (if (FI M j0 1) < (1 : Int32) then some false else (if (FI M j0 1) ≤ (16 : Int32) then b_X1_isSock_21 N M j0 N (0 : Int32) else some false))
set_option maxHeartbeats 4000000 in
set_option maxRecDepth 100000 in
theorem w_X1_isSock_0 (C : CX p s m args meth c cX1_isSock 2 (some .boolean) RX1 D cy ad zz 0 82 A) {N : Nat} {M : Mem} {j0 : Nat} (hk_j0 : kd j0 = 1) {rr : Bool} {H : Heap} {locs : List Loc} (hP : va_P D vwCl (pool cy ad 0 82 M) H) (hD : va_D A (pool cy ad 0 82 M)) (hS : va_S A s.heap H locs) {ls : Array Slot} (hl : lv_has ls 2 [(0, .ref (ad j0))]) (h : b_X1_isSock_0 N M j0 = some rr) : W p l e ({ frames := 2, cells := 0, slots := 0, locals := 42 } : Room) s m args below meth c H locs 0 0 (MQ below (va_Qi (fun (x : Int32) (_ : Unit) => x = b2i rr) (fun _ t => PA D cy ad 0 82 A M t) A) args s 0 0 A) (F0 m 0 ls []) := by
  obtain ⟨hx, hb, hml, hown, hts, hr, hlk, hK, hN, hA, hX⟩ := id C
  unfold b_X1_isSock_0 at h
  refine lv_aload_n hx hb dX1_isSock_0 rfl (lv_at hl 0 rfl) ?_
  refine gf_1_1 C hP (p_1 hk_j0) hk_j0 wd_198 dX1_isSock_1 ?_
  refine lv_iconst (v := 1) hx hb dX1_isSock_4 (by decide) ?_
  refine lv_icmp_lt (tgt := 17) hx hb dX1_isSock_5 (by decide) (fun c5 => ?_) (fun c5 => ?_)
  · replace h := it_t c5 h
    refine lv_iconst (v := 0) hx hb dX1_isSock_17 (by decide) ?_
    exact rt_z (r := false) C hP hD hS dX1_isSock_18 ⟨Option.some.inj h, rfl⟩
  · replace h := it_f c5 h
    refine lv_aload_n hx hb dX1_isSock_8 rfl (lv_at hl 0 rfl) ?_
    refine gf_1_1 C hP (p_1 hk_j0) hk_j0 wd_198 dX1_isSock_9 ?_
    refine lv_bipush (v := 16) hx hb dX1_isSock_12 (by decide) ?_
    refine lv_icmp_le (tgt := 19) hx hb dX1_isSock_14 (by decide) (fun c14 => ?_) (fun c14 => ?_)
    · replace h := it_t c14 h
      refine lv_iconst (v := 0) hx hb dX1_isSock_19 (by decide) ?_
      refine lv_istore_n (lv' := [(1, .int (0 : Int32)), (0, .ref (ad j0))]) hx hb dX1_isSock_20 rfl hl (by decide) rfl (fun ls hl => ?_)
      exact w_X1_isSock_21 C hk_j0 N _ _ _ hP hD hS _ (lv_sub hl [1, 0] rfl) h
    · replace h := it_f c14 h
      refine lv_iconst (v := 0) hx hb dX1_isSock_17 (by decide) ?_
      exact rt_z (r := false) C hP hD hS dX1_isSock_18 ⟨Option.some.inj h, rfl⟩
def f_X1_isSock (N : Nat) (j0 : Nat) (M : Mem) : Option (Bool) := b_X1_isSock_0 N M j0
theorem c_X1_isSock {l : Launch} {D : va_G} {cy : Nat → ClassId} {ad : Nat → Nat} {zz : (Nat → Nat) × (Nat → Nat)} {N : Nat} {j0 : Nat} (hk_j0 : kd j0 = 1) {M : Mem} {rr : Bool} (h : f_X1_isSock N j0 M = some rr) : CTi l D cy ad zz 0 82 yX1_isSock (.code yX1_isSock cX1_isSock 2 (some .boolean) :: tb) ({ frames := 2, cells := 0, slots := 0, locals := 42 } : Room) [.ref (ad j0)] M (b2i rr) M := by
  intro sz
  refine CX.of (by decide +kernel) (fun p e s m args below meth c H ls C hP hD hS hl => ?_) (Nat.le_of_ble_eq_true rfl)
  exact w_X1_isSock_0 C hk_j0 hP hD hS hl h
theorem ev_X1_isSock : yX1_isSock.cls = RX1 ∧ yX1_isSock.cls ≠ "java/lang/invoke/MethodHandle" ∧ yX1_isSock.cls ≠ "java/lang/invoke/VarHandle" ∧ (parseMethodDescriptor yX1_isSock.desc).map (fun d => d.parameters.length) = some 0 := by decide +kernel
def b_X2_arrive_53 (j0 : Nat) (x1 : Int32) (x2 : Int32) (M : Mem) : Option (Mem) := gd (inb (0 : Int32) (len (j0 + 19))) (some (sAI M (j0 + 19) (0 : Int32).toNatClampNeg (0 : Int32)))
set_option maxHeartbeats 4000000 in
set_option maxRecDepth 100000 in
theorem w_X2_arrive_53 (C : CX p s m args meth c cX2_arrive 3 none RX2 D cy ad zz 0 82 A) {M : Mem} {j0 : Nat} (hk_j0 : kd j0 = 2) {x1 : Int32} {x2 : Int32} {M' : Mem} {H : Heap} {locs : List Loc} (hP : va_P D vwCl (pool cy ad 0 82 M) H) (hD : va_D A (pool cy ad 0 82 M)) (hS : va_S A s.heap H locs) {ls : Array Slot} (hl : lv_has ls 3 [(0, .ref (ad j0))]) (h : b_X2_arrive_53 j0 x1 x2 M = some M') : W p l e ({ frames := 0, cells := 0, slots := 0, locals := 0 } : Room) s m args below meth c H locs 0 0 (MQ below (va_Qv (fun (_ : Unit) => True) (fun _ t => PA D cy ad 0 82 A M' t) A) args s 0 0 A) (F0 m 53 ls []) := by
  obtain ⟨hx, hb, hml, hown, hts, hr, hlk, hK, hN, hA, hX⟩ := id C
  unfold b_X2_arrive_53 at h
  refine lv_aload_n hx hb dX2_arrive_53 rfl (lv_at hl 0 rfl) ?_
  refine gf_2_9 C hP (p_2 hk_j0) hk_j0 wd_119 dX2_arrive_54 ?_
  refine lv_iconst (v := 0) hx hb dX2_arrive_57 (by decide) ?_
  refine lv_iconst (v := 0) hx hb dX2_arrive_58 (by decide) ?_
  obtain ⟨gi1, h⟩ := gd_of h
  refine ia_st C hP hD hS (p_2_9 hk_j0) (k_2_9 hk_j0) gi1 dX2_arrive_59 (fun H locs hP hD hS => ?_)
  exact rt_v C hP hD hS dX2_arrive_60 (Option.some.inj h)
def b_X2_arrive_48 (j0 : Nat) (x1 : Int32) (x2 : Int32) (M : Mem) : Option (Mem) := b_X2_arrive_53 j0 x1 x2 (sFI M j0 7 (1 : Int32))
set_option maxHeartbeats 4000000 in
set_option maxRecDepth 100000 in
theorem w_X2_arrive_48 (C : CX p s m args meth c cX2_arrive 3 none RX2 D cy ad zz 0 82 A) {M : Mem} {j0 : Nat} (hk_j0 : kd j0 = 2) {x1 : Int32} {x2 : Int32} {M' : Mem} {H : Heap} {locs : List Loc} (hP : va_P D vwCl (pool cy ad 0 82 M) H) (hD : va_D A (pool cy ad 0 82 M)) (hS : va_S A s.heap H locs) {ls : Array Slot} (hl : lv_has ls 3 [(0, .ref (ad j0))]) (h : b_X2_arrive_48 j0 x1 x2 M = some M') : W p l e ({ frames := 0, cells := 0, slots := 0, locals := 0 } : Room) s m args below meth c H locs 0 0 (MQ below (va_Qv (fun (_ : Unit) => True) (fun _ t => PA D cy ad 0 82 A M' t) A) args s 0 0 A) (F0 m 48 ls []) := by
  obtain ⟨hx, hb, hml, hown, hts, hr, hlk, hK, hN, hA, hX⟩ := id C
  unfold b_X2_arrive_48 at h
  refine lv_aload_n hx hb dX2_arrive_48 rfl (lv_at hl 0 rfl) ?_
  refine lv_iconst (v := 1) hx hb dX2_arrive_49 (by decide) ?_
  refine pf_2_7 C hP hD hS (p_2 hk_j0) hk_j0 wd_115 dX2_arrive_50 (fun H locs hP hD hS => ?_)
  exact w_X2_arrive_53 C hk_j0 hP hD hS hl h
def b_X2_arrive_42 (j0 : Nat) (x1 : Int32) (x2 : Int32) (M : Mem) : Option (Mem) := b_X2_arrive_48 j0 x1 x2 (sFI M j0 6 (99 : Int32))
set_option maxHeartbeats 4000000 in
set_option maxRecDepth 100000 in
theorem w_X2_arrive_42 (C : CX p s m args meth c cX2_arrive 3 none RX2 D cy ad zz 0 82 A) {M : Mem} {j0 : Nat} (hk_j0 : kd j0 = 2) {x1 : Int32} {x2 : Int32} {M' : Mem} {H : Heap} {locs : List Loc} (hP : va_P D vwCl (pool cy ad 0 82 M) H) (hD : va_D A (pool cy ad 0 82 M)) (hS : va_S A s.heap H locs) {ls : Array Slot} (hl : lv_has ls 3 [(0, .ref (ad j0))]) (h : b_X2_arrive_42 j0 x1 x2 M = some M') : W p l e ({ frames := 0, cells := 0, slots := 0, locals := 0 } : Room) s m args below meth c H locs 0 0 (MQ below (va_Qv (fun (_ : Unit) => True) (fun _ t => PA D cy ad 0 82 A M' t) A) args s 0 0 A) (F0 m 42 ls []) := by
  obtain ⟨hx, hb, hml, hown, hts, hr, hlk, hK, hN, hA, hX⟩ := id C
  unfold b_X2_arrive_42 at h
  refine lv_aload_n hx hb dX2_arrive_42 rfl (lv_at hl 0 rfl) ?_
  refine lv_bipush (v := 99) hx hb dX2_arrive_43 (by decide) ?_
  refine pf_2_6 C hP hD hS (p_2 hk_j0) hk_j0 wd_113 dX2_arrive_45 (fun H locs hP hD hS => ?_)
  exact w_X2_arrive_48 C hk_j0 hP hD hS hl h
def b_X2_arrive_37 (j0 : Nat) (x1 : Int32) (x2 : Int32) (M : Mem) : Option (Mem) := b_X2_arrive_42 j0 x1 x2 (sFI M j0 5 (0 : Int32))
set_option maxHeartbeats 4000000 in
set_option maxRecDepth 100000 in
theorem w_X2_arrive_37 (C : CX p s m args meth c cX2_arrive 3 none RX2 D cy ad zz 0 82 A) {M : Mem} {j0 : Nat} (hk_j0 : kd j0 = 2) {x1 : Int32} {x2 : Int32} {M' : Mem} {H : Heap} {locs : List Loc} (hP : va_P D vwCl (pool cy ad 0 82 M) H) (hD : va_D A (pool cy ad 0 82 M)) (hS : va_S A s.heap H locs) {ls : Array Slot} (hl : lv_has ls 3 [(0, .ref (ad j0))]) (h : b_X2_arrive_37 j0 x1 x2 M = some M') : W p l e ({ frames := 0, cells := 0, slots := 0, locals := 0 } : Room) s m args below meth c H locs 0 0 (MQ below (va_Qv (fun (_ : Unit) => True) (fun _ t => PA D cy ad 0 82 A M' t) A) args s 0 0 A) (F0 m 37 ls []) := by
  obtain ⟨hx, hb, hml, hown, hts, hr, hlk, hK, hN, hA, hX⟩ := id C
  unfold b_X2_arrive_37 at h
  refine lv_aload_n hx hb dX2_arrive_37 rfl (lv_at hl 0 rfl) ?_
  refine lv_iconst (v := 0) hx hb dX2_arrive_38 (by decide) ?_
  refine pf_2_5 C hP hD hS (p_2 hk_j0) hk_j0 wd_111 dX2_arrive_39 (fun H locs hP hD hS => ?_)
  exact w_X2_arrive_42 C hk_j0 hP hD hS hl h
def b_X2_arrive_32 (j0 : Nat) (x1 : Int32) (x2 : Int32) (M : Mem) : Option (Mem) := b_X2_arrive_37 j0 x1 x2 (sFI M j0 4 (0 : Int32))
set_option maxHeartbeats 4000000 in
set_option maxRecDepth 100000 in
theorem w_X2_arrive_32 (C : CX p s m args meth c cX2_arrive 3 none RX2 D cy ad zz 0 82 A) {M : Mem} {j0 : Nat} (hk_j0 : kd j0 = 2) {x1 : Int32} {x2 : Int32} {M' : Mem} {H : Heap} {locs : List Loc} (hP : va_P D vwCl (pool cy ad 0 82 M) H) (hD : va_D A (pool cy ad 0 82 M)) (hS : va_S A s.heap H locs) {ls : Array Slot} (hl : lv_has ls 3 [(0, .ref (ad j0))]) (h : b_X2_arrive_32 j0 x1 x2 M = some M') : W p l e ({ frames := 0, cells := 0, slots := 0, locals := 0 } : Room) s m args below meth c H locs 0 0 (MQ below (va_Qv (fun (_ : Unit) => True) (fun _ t => PA D cy ad 0 82 A M' t) A) args s 0 0 A) (F0 m 32 ls []) := by
  obtain ⟨hx, hb, hml, hown, hts, hr, hlk, hK, hN, hA, hX⟩ := id C
  unfold b_X2_arrive_32 at h
  refine lv_aload_n hx hb dX2_arrive_32 rfl (lv_at hl 0 rfl) ?_
  refine lv_iconst (v := 0) hx hb dX2_arrive_33 (by decide) ?_
  refine pf_2_4 C hP hD hS (p_2 hk_j0) hk_j0 wd_109 dX2_arrive_34 (fun H locs hP hD hS => ?_)
  exact w_X2_arrive_37 C hk_j0 hP hD hS hl h
def b_X2_arrive_24 (j0 : Nat) (x1 : Int32) (x2 : Int32) (M : Mem) : Option (Mem) := b_X2_arrive_32 j0 x1 x2 (sFI M j0 3 (x2 - x2 / (10 : Int32) * (10 : Int32)))
set_option maxHeartbeats 4000000 in
set_option maxRecDepth 100000 in
theorem w_X2_arrive_24 (C : CX p s m args meth c cX2_arrive 3 none RX2 D cy ad zz 0 82 A) {M : Mem} {j0 : Nat} (hk_j0 : kd j0 = 2) {x1 : Int32} {x2 : Int32} {M' : Mem} {H : Heap} {locs : List Loc} (hP : va_P D vwCl (pool cy ad 0 82 M) H) (hD : va_D A (pool cy ad 0 82 M)) (hS : va_S A s.heap H locs) {ls : Array Slot} (hl : lv_has ls 3 [(0, .ref (ad j0)), (2, .int x2)]) (h : b_X2_arrive_24 j0 x1 x2 M = some M') : W p l e ({ frames := 0, cells := 0, slots := 0, locals := 0 } : Room) s m args below meth c H locs 0 0 (MQ below (va_Qv (fun (_ : Unit) => True) (fun _ t => PA D cy ad 0 82 A M' t) A) args s 0 0 A) (F0 m 24 ls []) := by
  obtain ⟨hx, hb, hml, hown, hts, hr, hlk, hK, hN, hA, hX⟩ := id C
  unfold b_X2_arrive_24 at h
  refine lv_aload_n hx hb dX2_arrive_24 rfl (lv_at hl 0 rfl) ?_
  refine lv_iload_n hx hb dX2_arrive_25 rfl (lv_at hl 1 rfl) ?_
  refine lv_bipush (v := 10) hx hb dX2_arrive_26 (by decide) ?_
  refine lv_irem hx hb dX2_arrive_28 (by decide) ?_
  refine pf_2_3 C hP hD hS (p_2 hk_j0) hk_j0 wd_107 dX2_arrive_29 (fun H locs hP hD hS => ?_)
  exact w_X2_arrive_32 C hk_j0 hP hD hS (lv_sub hl [0] rfl) h
def b_X2_arrive_16 (j0 : Nat) (x1 : Int32) (x2 : Int32) (M : Mem) : Option (Mem) := b_X2_arrive_24 j0 x1 x2 (sFI M j0 2 (x2 / (10 : Int32)))
set_option maxHeartbeats 4000000 in
set_option maxRecDepth 100000 in
theorem w_X2_arrive_16 (C : CX p s m args meth c cX2_arrive 3 none RX2 D cy ad zz 0 82 A) {M : Mem} {j0 : Nat} (hk_j0 : kd j0 = 2) {x1 : Int32} {x2 : Int32} {M' : Mem} {H : Heap} {locs : List Loc} (hP : va_P D vwCl (pool cy ad 0 82 M) H) (hD : va_D A (pool cy ad 0 82 M)) (hS : va_S A s.heap H locs) {ls : Array Slot} (hl : lv_has ls 3 [(0, .ref (ad j0)), (2, .int x2)]) (h : b_X2_arrive_16 j0 x1 x2 M = some M') : W p l e ({ frames := 0, cells := 0, slots := 0, locals := 0 } : Room) s m args below meth c H locs 0 0 (MQ below (va_Qv (fun (_ : Unit) => True) (fun _ t => PA D cy ad 0 82 A M' t) A) args s 0 0 A) (F0 m 16 ls []) := by
  obtain ⟨hx, hb, hml, hown, hts, hr, hlk, hK, hN, hA, hX⟩ := id C
  unfold b_X2_arrive_16 at h
  refine lv_aload_n hx hb dX2_arrive_16 rfl (lv_at hl 0 rfl) ?_
  refine lv_iload_n hx hb dX2_arrive_17 rfl (lv_at hl 1 rfl) ?_
  refine lv_bipush (v := 10) hx hb dX2_arrive_18 (by decide) ?_
  refine lv_idiv hx hb dX2_arrive_20 (by decide) ?_
  refine pf_2_2 C hP hD hS (p_2 hk_j0) hk_j0 wd_104 dX2_arrive_21 (fun H locs hP hD hS => ?_)
  exact w_X2_arrive_24 C hk_j0 hP hD hS hl h
def b_X2_arrive_8 (j0 : Nat) (x1 : Int32) (x2 : Int32) (M : Mem) : Option (Mem) := b_X2_arrive_16 j0 x1 x2 (sFI M j0 1 (x1 - x1 / (10 : Int32) * (10 : Int32)))
set_option maxHeartbeats 4000000 in
set_option maxRecDepth 100000 in
theorem w_X2_arrive_8 (C : CX p s m args meth c cX2_arrive 3 none RX2 D cy ad zz 0 82 A) {M : Mem} {j0 : Nat} (hk_j0 : kd j0 = 2) {x1 : Int32} {x2 : Int32} {M' : Mem} {H : Heap} {locs : List Loc} (hP : va_P D vwCl (pool cy ad 0 82 M) H) (hD : va_D A (pool cy ad 0 82 M)) (hS : va_S A s.heap H locs) {ls : Array Slot} (hl : lv_has ls 3 [(0, .ref (ad j0)), (1, .int x1), (2, .int x2)]) (h : b_X2_arrive_8 j0 x1 x2 M = some M') : W p l e ({ frames := 0, cells := 0, slots := 0, locals := 0 } : Room) s m args below meth c H locs 0 0 (MQ below (va_Qv (fun (_ : Unit) => True) (fun _ t => PA D cy ad 0 82 A M' t) A) args s 0 0 A) (F0 m 8 ls []) := by
  obtain ⟨hx, hb, hml, hown, hts, hr, hlk, hK, hN, hA, hX⟩ := id C
  unfold b_X2_arrive_8 at h
  refine lv_aload_n hx hb dX2_arrive_8 rfl (lv_at hl 0 rfl) ?_
  refine lv_iload_n hx hb dX2_arrive_9 rfl (lv_at hl 1 rfl) ?_
  refine lv_bipush (v := 10) hx hb dX2_arrive_10 (by decide) ?_
  refine lv_irem hx hb dX2_arrive_12 (by decide) ?_
  refine pf_2_1 C hP hD hS (p_2 hk_j0) hk_j0 wd_102 dX2_arrive_13 (fun H locs hP hD hS => ?_)
  exact w_X2_arrive_16 C hk_j0 hP hD hS (lv_sub hl [0, 2] rfl) h
def b_X2_arrive_0 (j0 : Nat) (x1 : Int32) (x2 : Int32) (M : Mem) : Option (Mem) := b_X2_arrive_8 j0 x1 x2 (sFI M j0 0 (x1 / (10 : Int32)))
set_option maxHeartbeats 4000000 in
set_option maxRecDepth 100000 in
theorem w_X2_arrive_0 (C : CX p s m args meth c cX2_arrive 3 none RX2 D cy ad zz 0 82 A) {M : Mem} {j0 : Nat} (hk_j0 : kd j0 = 2) {x1 : Int32} {x2 : Int32} {M' : Mem} {H : Heap} {locs : List Loc} (hP : va_P D vwCl (pool cy ad 0 82 M) H) (hD : va_D A (pool cy ad 0 82 M)) (hS : va_S A s.heap H locs) {ls : Array Slot} (hl : lv_has ls 3 [(0, .ref (ad j0)), (1, .int x1), (2, .int x2)]) (h : b_X2_arrive_0 j0 x1 x2 M = some M') : W p l e ({ frames := 0, cells := 0, slots := 0, locals := 0 } : Room) s m args below meth c H locs 0 0 (MQ below (va_Qv (fun (_ : Unit) => True) (fun _ t => PA D cy ad 0 82 A M' t) A) args s 0 0 A) (F0 m 0 ls []) := by
  obtain ⟨hx, hb, hml, hown, hts, hr, hlk, hK, hN, hA, hX⟩ := id C
  unfold b_X2_arrive_0 at h
  refine lv_aload_n hx hb dX2_arrive_0 rfl (lv_at hl 0 rfl) ?_
  refine lv_iload_n hx hb dX2_arrive_1 rfl (lv_at hl 1 rfl) ?_
  refine lv_bipush (v := 10) hx hb dX2_arrive_2 (by decide) ?_
  refine lv_idiv hx hb dX2_arrive_4 (by decide) ?_
  refine pf_2_0 C hP hD hS (p_2 hk_j0) hk_j0 wd_100 dX2_arrive_5 (fun H locs hP hD hS => ?_)
  exact w_X2_arrive_8 C hk_j0 hP hD hS hl h
def f_X2_arrive (j0 : Nat) (x1 : Int32) (x2 : Int32) (M : Mem) : Option (Mem) := b_X2_arrive_0 j0 x1 x2 M
theorem c_X2_arrive {l : Launch} {D : va_G} {cy : Nat → ClassId} {ad : Nat → Nat} {zz : (Nat → Nat) × (Nat → Nat)} {j0 : Nat} (hk_j0 : kd j0 = 2) {x1 : Int32} {x2 : Int32} {M : Mem} {M' : Mem} (h : f_X2_arrive j0 x1 x2 M = some M') : CTv l D cy ad zz 0 82 yX2_arrive (.code yX2_arrive cX2_arrive 3 none :: tb) ({ frames := 0, cells := 0, slots := 0, locals := 0 } : Room) [.ref (ad j0), .int x1, .int x2] M M' := by
  intro sz
  refine CX.of (by decide +kernel) (fun p e s m args below meth c H ls C hP hD hS hl => ?_) (Nat.le_of_ble_eq_true rfl)
  exact w_X2_arrive_0 C hk_j0 hP hD hS hl h
theorem ev_X2_arrive : yX2_arrive.cls = RX2 ∧ yX2_arrive.cls ≠ "java/lang/invoke/MethodHandle" ∧ yX2_arrive.cls ≠ "java/lang/invoke/VarHandle" ∧ (parseMethodDescriptor yX2_arrive.desc).map (fun d => d.parameters.length) = some 2 := by decide +kernel
def b_X2_becomeAs_64 (j0 : Nat) (j1 : Nat) (M : Mem) : Option (Mem) := gd (decide (0 ≤ (0 : Int32)) && decide (0 ≤ (0 : Int32)) && decide (0 ≤ (16 : Int32)) && decide ((0 : Int32).toNatClampNeg + (16 : Int32).toNatClampNeg ≤ len (j1 + 19)) && decide ((0 : Int32).toNatClampNeg + (16 : Int32).toNatClampNeg ≤ len (j0 + 19))) (some (rAI M (j0 + 19) (va_cpy (AI M (j1 + 19)) (AI M (j0 + 19)) (0 : Int32).toNatClampNeg (0 : Int32).toNatClampNeg (16 : Int32).toNatClampNeg)))
set_option maxHeartbeats 4000000 in
set_option maxRecDepth 100000 in
theorem w_X2_becomeAs_64 (C : CX p s m args meth c cX2_becomeAs 2 none RX2 D cy ad zz 0 82 A) {M : Mem} {j0 : Nat} (hk_j0 : kd j0 = 2) {j1 : Nat} (hk_j1 : kd j1 = 2) {M' : Mem} {H : Heap} {locs : List Loc} (hP : va_P D vwCl (pool cy ad 0 82 M) H) (hD : va_D A (pool cy ad 0 82 M)) (hS : va_S A s.heap H locs) {ls : Array Slot} (hl : lv_has ls 2 [(0, .ref (ad j0)), (1, .ref (ad j1))]) (h : b_X2_becomeAs_64 j0 j1 M = some M') : W p l e ({ frames := 1, cells := 0, slots := 0, locals := 60 } : Room) s m args below meth c H locs 0 0 (MQ below (va_Qv (fun (_ : Unit) => True) (fun _ t => PA D cy ad 0 82 A M' t) A) args s 0 0 A) (F0 m 64 ls []) := by
  obtain ⟨hx, hb, hml, hown, hts, hr, hlk, hK, hN, hA, hX⟩ := id C
  unfold b_X2_becomeAs_64 at h
  refine lv_aload_n hx hb dX2_becomeAs_64 rfl (lv_at hl 1 rfl) ?_
  refine gf_2_9 C hP (p_2 hk_j1) hk_j1 wd_119 dX2_becomeAs_65 ?_
  refine lv_iconst (v := 0) hx hb dX2_becomeAs_68 (by decide) ?_
  refine lv_aload_n hx hb dX2_becomeAs_69 rfl (lv_at hl 0 rfl) ?_
  refine gf_2_9 C hP (p_2 hk_j0) hk_j0 wd_119 dX2_becomeAs_70 ?_
  refine lv_iconst (v := 0) hx hb dX2_becomeAs_73 (by decide) ?_
  refine lv_bipush (v := 16) hx hb dX2_becomeAs_74 (by decide) ?_
  obtain ⟨gc1, h⟩ := gd_of h
  refine ia_cp C hP hD hS (p_2_9 hk_j1) (k_2_9 hk_j1) (p_2_9 hk_j0) (k_2_9 hk_j0) wd_623 wd_625 wd_624 wd_77 gc1 hl.1 (Nat.le_of_ble_eq_true rfl) (by decide +kernel) dX2_becomeAs_76 (fun H locs hP hD hS => ?_)
  exact rt_v C hP hD hS dX2_becomeAs_79 (Option.some.inj h)
def b_X2_becomeAs_56 (j0 : Nat) (j1 : Nat) (M : Mem) : Option (Mem) := b_X2_becomeAs_64 j0 j1 (sFI M j0 7 (FI M j1 7))
set_option maxHeartbeats 4000000 in
set_option maxRecDepth 100000 in
theorem w_X2_becomeAs_56 (C : CX p s m args meth c cX2_becomeAs 2 none RX2 D cy ad zz 0 82 A) {M : Mem} {j0 : Nat} (hk_j0 : kd j0 = 2) {j1 : Nat} (hk_j1 : kd j1 = 2) {M' : Mem} {H : Heap} {locs : List Loc} (hP : va_P D vwCl (pool cy ad 0 82 M) H) (hD : va_D A (pool cy ad 0 82 M)) (hS : va_S A s.heap H locs) {ls : Array Slot} (hl : lv_has ls 2 [(0, .ref (ad j0)), (1, .ref (ad j1))]) (h : b_X2_becomeAs_56 j0 j1 M = some M') : W p l e ({ frames := 1, cells := 0, slots := 0, locals := 60 } : Room) s m args below meth c H locs 0 0 (MQ below (va_Qv (fun (_ : Unit) => True) (fun _ t => PA D cy ad 0 82 A M' t) A) args s 0 0 A) (F0 m 56 ls []) := by
  obtain ⟨hx, hb, hml, hown, hts, hr, hlk, hK, hN, hA, hX⟩ := id C
  unfold b_X2_becomeAs_56 at h
  refine lv_aload_n hx hb dX2_becomeAs_56 rfl (lv_at hl 0 rfl) ?_
  refine lv_aload_n hx hb dX2_becomeAs_57 rfl (lv_at hl 1 rfl) ?_
  refine gf_2_7 C hP (p_2 hk_j1) hk_j1 wd_115 dX2_becomeAs_58 ?_
  refine pf_2_7 C hP hD hS (p_2 hk_j0) hk_j0 wd_115 dX2_becomeAs_61 (fun H locs hP hD hS => ?_)
  exact w_X2_becomeAs_64 C hk_j0 hk_j1 hP hD hS hl h
def b_X2_becomeAs_48 (j0 : Nat) (j1 : Nat) (M : Mem) : Option (Mem) := b_X2_becomeAs_56 j0 j1 (sFI M j0 6 (FI M j1 6))
set_option maxHeartbeats 4000000 in
set_option maxRecDepth 100000 in
theorem w_X2_becomeAs_48 (C : CX p s m args meth c cX2_becomeAs 2 none RX2 D cy ad zz 0 82 A) {M : Mem} {j0 : Nat} (hk_j0 : kd j0 = 2) {j1 : Nat} (hk_j1 : kd j1 = 2) {M' : Mem} {H : Heap} {locs : List Loc} (hP : va_P D vwCl (pool cy ad 0 82 M) H) (hD : va_D A (pool cy ad 0 82 M)) (hS : va_S A s.heap H locs) {ls : Array Slot} (hl : lv_has ls 2 [(0, .ref (ad j0)), (1, .ref (ad j1))]) (h : b_X2_becomeAs_48 j0 j1 M = some M') : W p l e ({ frames := 1, cells := 0, slots := 0, locals := 60 } : Room) s m args below meth c H locs 0 0 (MQ below (va_Qv (fun (_ : Unit) => True) (fun _ t => PA D cy ad 0 82 A M' t) A) args s 0 0 A) (F0 m 48 ls []) := by
  obtain ⟨hx, hb, hml, hown, hts, hr, hlk, hK, hN, hA, hX⟩ := id C
  unfold b_X2_becomeAs_48 at h
  refine lv_aload_n hx hb dX2_becomeAs_48 rfl (lv_at hl 0 rfl) ?_
  refine lv_aload_n hx hb dX2_becomeAs_49 rfl (lv_at hl 1 rfl) ?_
  refine gf_2_6 C hP (p_2 hk_j1) hk_j1 wd_113 dX2_becomeAs_50 ?_
  refine pf_2_6 C hP hD hS (p_2 hk_j0) hk_j0 wd_113 dX2_becomeAs_53 (fun H locs hP hD hS => ?_)
  exact w_X2_becomeAs_56 C hk_j0 hk_j1 hP hD hS hl h
def b_X2_becomeAs_40 (j0 : Nat) (j1 : Nat) (M : Mem) : Option (Mem) := b_X2_becomeAs_48 j0 j1 (sFI M j0 5 (FI M j1 5))
set_option maxHeartbeats 4000000 in
set_option maxRecDepth 100000 in
theorem w_X2_becomeAs_40 (C : CX p s m args meth c cX2_becomeAs 2 none RX2 D cy ad zz 0 82 A) {M : Mem} {j0 : Nat} (hk_j0 : kd j0 = 2) {j1 : Nat} (hk_j1 : kd j1 = 2) {M' : Mem} {H : Heap} {locs : List Loc} (hP : va_P D vwCl (pool cy ad 0 82 M) H) (hD : va_D A (pool cy ad 0 82 M)) (hS : va_S A s.heap H locs) {ls : Array Slot} (hl : lv_has ls 2 [(0, .ref (ad j0)), (1, .ref (ad j1))]) (h : b_X2_becomeAs_40 j0 j1 M = some M') : W p l e ({ frames := 1, cells := 0, slots := 0, locals := 60 } : Room) s m args below meth c H locs 0 0 (MQ below (va_Qv (fun (_ : Unit) => True) (fun _ t => PA D cy ad 0 82 A M' t) A) args s 0 0 A) (F0 m 40 ls []) := by
  obtain ⟨hx, hb, hml, hown, hts, hr, hlk, hK, hN, hA, hX⟩ := id C
  unfold b_X2_becomeAs_40 at h
  refine lv_aload_n hx hb dX2_becomeAs_40 rfl (lv_at hl 0 rfl) ?_
  refine lv_aload_n hx hb dX2_becomeAs_41 rfl (lv_at hl 1 rfl) ?_
  refine gf_2_5 C hP (p_2 hk_j1) hk_j1 wd_111 dX2_becomeAs_42 ?_
  refine pf_2_5 C hP hD hS (p_2 hk_j0) hk_j0 wd_111 dX2_becomeAs_45 (fun H locs hP hD hS => ?_)
  exact w_X2_becomeAs_48 C hk_j0 hk_j1 hP hD hS hl h
def b_X2_becomeAs_32 (j0 : Nat) (j1 : Nat) (M : Mem) : Option (Mem) := b_X2_becomeAs_40 j0 j1 (sFI M j0 4 (FI M j1 4))
set_option maxHeartbeats 4000000 in
set_option maxRecDepth 100000 in
theorem w_X2_becomeAs_32 (C : CX p s m args meth c cX2_becomeAs 2 none RX2 D cy ad zz 0 82 A) {M : Mem} {j0 : Nat} (hk_j0 : kd j0 = 2) {j1 : Nat} (hk_j1 : kd j1 = 2) {M' : Mem} {H : Heap} {locs : List Loc} (hP : va_P D vwCl (pool cy ad 0 82 M) H) (hD : va_D A (pool cy ad 0 82 M)) (hS : va_S A s.heap H locs) {ls : Array Slot} (hl : lv_has ls 2 [(0, .ref (ad j0)), (1, .ref (ad j1))]) (h : b_X2_becomeAs_32 j0 j1 M = some M') : W p l e ({ frames := 1, cells := 0, slots := 0, locals := 60 } : Room) s m args below meth c H locs 0 0 (MQ below (va_Qv (fun (_ : Unit) => True) (fun _ t => PA D cy ad 0 82 A M' t) A) args s 0 0 A) (F0 m 32 ls []) := by
  obtain ⟨hx, hb, hml, hown, hts, hr, hlk, hK, hN, hA, hX⟩ := id C
  unfold b_X2_becomeAs_32 at h
  refine lv_aload_n hx hb dX2_becomeAs_32 rfl (lv_at hl 0 rfl) ?_
  refine lv_aload_n hx hb dX2_becomeAs_33 rfl (lv_at hl 1 rfl) ?_
  refine gf_2_4 C hP (p_2 hk_j1) hk_j1 wd_109 dX2_becomeAs_34 ?_
  refine pf_2_4 C hP hD hS (p_2 hk_j0) hk_j0 wd_109 dX2_becomeAs_37 (fun H locs hP hD hS => ?_)
  exact w_X2_becomeAs_40 C hk_j0 hk_j1 hP hD hS hl h
def b_X2_becomeAs_24 (j0 : Nat) (j1 : Nat) (M : Mem) : Option (Mem) := b_X2_becomeAs_32 j0 j1 (sFI M j0 3 (FI M j1 3))
set_option maxHeartbeats 4000000 in
set_option maxRecDepth 100000 in
theorem w_X2_becomeAs_24 (C : CX p s m args meth c cX2_becomeAs 2 none RX2 D cy ad zz 0 82 A) {M : Mem} {j0 : Nat} (hk_j0 : kd j0 = 2) {j1 : Nat} (hk_j1 : kd j1 = 2) {M' : Mem} {H : Heap} {locs : List Loc} (hP : va_P D vwCl (pool cy ad 0 82 M) H) (hD : va_D A (pool cy ad 0 82 M)) (hS : va_S A s.heap H locs) {ls : Array Slot} (hl : lv_has ls 2 [(0, .ref (ad j0)), (1, .ref (ad j1))]) (h : b_X2_becomeAs_24 j0 j1 M = some M') : W p l e ({ frames := 1, cells := 0, slots := 0, locals := 60 } : Room) s m args below meth c H locs 0 0 (MQ below (va_Qv (fun (_ : Unit) => True) (fun _ t => PA D cy ad 0 82 A M' t) A) args s 0 0 A) (F0 m 24 ls []) := by
  obtain ⟨hx, hb, hml, hown, hts, hr, hlk, hK, hN, hA, hX⟩ := id C
  unfold b_X2_becomeAs_24 at h
  refine lv_aload_n hx hb dX2_becomeAs_24 rfl (lv_at hl 0 rfl) ?_
  refine lv_aload_n hx hb dX2_becomeAs_25 rfl (lv_at hl 1 rfl) ?_
  refine gf_2_3 C hP (p_2 hk_j1) hk_j1 wd_107 dX2_becomeAs_26 ?_
  refine pf_2_3 C hP hD hS (p_2 hk_j0) hk_j0 wd_107 dX2_becomeAs_29 (fun H locs hP hD hS => ?_)
  exact w_X2_becomeAs_32 C hk_j0 hk_j1 hP hD hS hl h
def b_X2_becomeAs_16 (j0 : Nat) (j1 : Nat) (M : Mem) : Option (Mem) := b_X2_becomeAs_24 j0 j1 (sFI M j0 2 (FI M j1 2))
set_option maxHeartbeats 4000000 in
set_option maxRecDepth 100000 in
theorem w_X2_becomeAs_16 (C : CX p s m args meth c cX2_becomeAs 2 none RX2 D cy ad zz 0 82 A) {M : Mem} {j0 : Nat} (hk_j0 : kd j0 = 2) {j1 : Nat} (hk_j1 : kd j1 = 2) {M' : Mem} {H : Heap} {locs : List Loc} (hP : va_P D vwCl (pool cy ad 0 82 M) H) (hD : va_D A (pool cy ad 0 82 M)) (hS : va_S A s.heap H locs) {ls : Array Slot} (hl : lv_has ls 2 [(0, .ref (ad j0)), (1, .ref (ad j1))]) (h : b_X2_becomeAs_16 j0 j1 M = some M') : W p l e ({ frames := 1, cells := 0, slots := 0, locals := 60 } : Room) s m args below meth c H locs 0 0 (MQ below (va_Qv (fun (_ : Unit) => True) (fun _ t => PA D cy ad 0 82 A M' t) A) args s 0 0 A) (F0 m 16 ls []) := by
  obtain ⟨hx, hb, hml, hown, hts, hr, hlk, hK, hN, hA, hX⟩ := id C
  unfold b_X2_becomeAs_16 at h
  refine lv_aload_n hx hb dX2_becomeAs_16 rfl (lv_at hl 0 rfl) ?_
  refine lv_aload_n hx hb dX2_becomeAs_17 rfl (lv_at hl 1 rfl) ?_
  refine gf_2_2 C hP (p_2 hk_j1) hk_j1 wd_104 dX2_becomeAs_18 ?_
  refine pf_2_2 C hP hD hS (p_2 hk_j0) hk_j0 wd_104 dX2_becomeAs_21 (fun H locs hP hD hS => ?_)
  exact w_X2_becomeAs_24 C hk_j0 hk_j1 hP hD hS hl h
def b_X2_becomeAs_8 (j0 : Nat) (j1 : Nat) (M : Mem) : Option (Mem) := b_X2_becomeAs_16 j0 j1 (sFI M j0 1 (FI M j1 1))
set_option maxHeartbeats 4000000 in
set_option maxRecDepth 100000 in
theorem w_X2_becomeAs_8 (C : CX p s m args meth c cX2_becomeAs 2 none RX2 D cy ad zz 0 82 A) {M : Mem} {j0 : Nat} (hk_j0 : kd j0 = 2) {j1 : Nat} (hk_j1 : kd j1 = 2) {M' : Mem} {H : Heap} {locs : List Loc} (hP : va_P D vwCl (pool cy ad 0 82 M) H) (hD : va_D A (pool cy ad 0 82 M)) (hS : va_S A s.heap H locs) {ls : Array Slot} (hl : lv_has ls 2 [(0, .ref (ad j0)), (1, .ref (ad j1))]) (h : b_X2_becomeAs_8 j0 j1 M = some M') : W p l e ({ frames := 1, cells := 0, slots := 0, locals := 60 } : Room) s m args below meth c H locs 0 0 (MQ below (va_Qv (fun (_ : Unit) => True) (fun _ t => PA D cy ad 0 82 A M' t) A) args s 0 0 A) (F0 m 8 ls []) := by
  obtain ⟨hx, hb, hml, hown, hts, hr, hlk, hK, hN, hA, hX⟩ := id C
  unfold b_X2_becomeAs_8 at h
  refine lv_aload_n hx hb dX2_becomeAs_8 rfl (lv_at hl 0 rfl) ?_
  refine lv_aload_n hx hb dX2_becomeAs_9 rfl (lv_at hl 1 rfl) ?_
  refine gf_2_1 C hP (p_2 hk_j1) hk_j1 wd_102 dX2_becomeAs_10 ?_
  refine pf_2_1 C hP hD hS (p_2 hk_j0) hk_j0 wd_102 dX2_becomeAs_13 (fun H locs hP hD hS => ?_)
  exact w_X2_becomeAs_16 C hk_j0 hk_j1 hP hD hS hl h
def b_X2_becomeAs_0 (j0 : Nat) (j1 : Nat) (M : Mem) : Option (Mem) := b_X2_becomeAs_8 j0 j1 (sFI M j0 0 (FI M j1 0))
set_option maxHeartbeats 4000000 in
set_option maxRecDepth 100000 in
theorem w_X2_becomeAs_0 (C : CX p s m args meth c cX2_becomeAs 2 none RX2 D cy ad zz 0 82 A) {M : Mem} {j0 : Nat} (hk_j0 : kd j0 = 2) {j1 : Nat} (hk_j1 : kd j1 = 2) {M' : Mem} {H : Heap} {locs : List Loc} (hP : va_P D vwCl (pool cy ad 0 82 M) H) (hD : va_D A (pool cy ad 0 82 M)) (hS : va_S A s.heap H locs) {ls : Array Slot} (hl : lv_has ls 2 [(0, .ref (ad j0)), (1, .ref (ad j1))]) (h : b_X2_becomeAs_0 j0 j1 M = some M') : W p l e ({ frames := 1, cells := 0, slots := 0, locals := 60 } : Room) s m args below meth c H locs 0 0 (MQ below (va_Qv (fun (_ : Unit) => True) (fun _ t => PA D cy ad 0 82 A M' t) A) args s 0 0 A) (F0 m 0 ls []) := by
  obtain ⟨hx, hb, hml, hown, hts, hr, hlk, hK, hN, hA, hX⟩ := id C
  unfold b_X2_becomeAs_0 at h
  refine lv_aload_n hx hb dX2_becomeAs_0 rfl (lv_at hl 0 rfl) ?_
  refine lv_aload_n hx hb dX2_becomeAs_1 rfl (lv_at hl 1 rfl) ?_
  refine gf_2_0 C hP (p_2 hk_j1) hk_j1 wd_100 dX2_becomeAs_2 ?_
  refine pf_2_0 C hP hD hS (p_2 hk_j0) hk_j0 wd_100 dX2_becomeAs_5 (fun H locs hP hD hS => ?_)
  exact w_X2_becomeAs_8 C hk_j0 hk_j1 hP hD hS hl h
def f_X2_becomeAs (j0 : Nat) (j1 : Nat) (M : Mem) : Option (Mem) := b_X2_becomeAs_0 j0 j1 M
theorem c_X2_becomeAs {l : Launch} {D : va_G} {cy : Nat → ClassId} {ad : Nat → Nat} {zz : (Nat → Nat) × (Nat → Nat)} {j0 : Nat} (hk_j0 : kd j0 = 2) {j1 : Nat} (hk_j1 : kd j1 = 2) {M : Mem} {M' : Mem} (h : f_X2_becomeAs j0 j1 M = some M') : CTv l D cy ad zz 0 82 yX2_becomeAs (.code yX2_becomeAs cX2_becomeAs 2 none :: tb) ({ frames := 1, cells := 0, slots := 0, locals := 60 } : Room) [.ref (ad j0), .ref (ad j1)] M M' := by
  intro sz
  refine CX.of (by decide +kernel) (fun p e s m args below meth c H ls C hP hD hS hl => ?_) (Nat.le_of_ble_eq_true rfl)
  exact w_X2_becomeAs_0 C hk_j0 hk_j1 hP hD hS hl h
theorem ev_X2_becomeAs : yX2_becomeAs.cls = RX2 ∧ yX2_becomeAs.cls ≠ "java/lang/invoke/MethodHandle" ∧ yX2_becomeAs.cls ≠ "java/lang/invoke/VarHandle" ∧ (parseMethodDescriptor yX2_becomeAs.desc).map (fun d => d.parameters.length) = some 1 := by decide +kernel
def b_X2_bound_0 (M : Mem) (j0 : Nat) (x1 : Int32) : Option (Int32) := (if x1 = 0 then some (64 : Int32) else (if x1 = 1 then some (4 : Int32) else (if x1 = 2 then some (FI M j0 7) else (if x1 = 3 then some (100 : Int32) else (if x1 = 4 then some (100 : Int32) else some (0 : Int32))))))
set_option maxHeartbeats 4000000 in
set_option maxRecDepth 100000 in
theorem w_X2_bound_0 (C : CX p s m args meth c cX2_bound 2 (some .int) RX2 D cy ad zz 0 82 A) {M : Mem} {j0 : Nat} (hk_j0 : kd j0 = 2) {x1 : Int32} {rr : Int32} {H : Heap} {locs : List Loc} (hP : va_P D vwCl (pool cy ad 0 82 M) H) (hD : va_D A (pool cy ad 0 82 M)) (hS : va_S A s.heap H locs) {ls : Array Slot} (hl : lv_has ls 2 [(0, .ref (ad j0)), (1, .int x1)]) (h : b_X2_bound_0 M j0 x1 = some rr) : W p l e ({ frames := 0, cells := 0, slots := 0, locals := 0 } : Room) s m args below meth c H locs 0 0 (MQ below (va_Qi (fun (x : Int32) (_ : Unit) => x = rr) (fun _ t => PA D cy ad 0 82 A M t) A) args s 0 0 A) (F0 m 0 ls []) := by
  obtain ⟨hx, hb, hml, hown, hts, hr, hlk, hK, hN, hA, hX⟩ := id C
  unfold b_X2_bound_0 at h
  refine lv_iload_n hx hb dX2_bound_0 rfl (lv_at hl 1 rfl) ?_
  by_cases c1_0 : x1 = 0
  · replace h := it_t c1_0 h
    refine lv_tableIn (off := 35) (tgt := 36) hx hb dX2_bound_1 (by rw [c1_0]; decide) (by rw [c1_0]; decide) (by rw [c1_0]; rfl) (by decide) ?_
    refine lv_bipush (v := 64) hx hb dX2_bound_36 (by decide) ?_
    exact rt_i (r := (64 : Int32)) C hP hD hS dX2_bound_38 ⟨Option.some.inj h, rfl⟩
  · replace h := it_f c1_0 h
    by_cases c1_1 : x1 = 1
    · replace h := it_t c1_1 h
      refine lv_tableIn (off := 38) (tgt := 39) hx hb dX2_bound_1 (by rw [c1_1]; decide) (by rw [c1_1]; decide) (by rw [c1_1]; rfl) (by decide) ?_
      refine lv_iconst (v := 4) hx hb dX2_bound_39 (by decide) ?_
      exact rt_i (r := (4 : Int32)) C hP hD hS dX2_bound_40 ⟨Option.some.inj h, rfl⟩
    · replace h := it_f c1_1 h
      by_cases c1_2 : x1 = 2
      · replace h := it_t c1_2 h
        refine lv_tableIn (off := 40) (tgt := 41) hx hb dX2_bound_1 (by rw [c1_2]; decide) (by rw [c1_2]; decide) (by rw [c1_2]; rfl) (by decide) ?_
        refine lv_aload_n hx hb dX2_bound_41 rfl (lv_at hl 0 rfl) ?_
        refine gf_2_7 C hP (p_2 hk_j0) hk_j0 wd_115 dX2_bound_42 ?_
        exact rt_i (r := (FI M j0 7)) C hP hD hS dX2_bound_45 ⟨Option.some.inj h, rfl⟩
      · replace h := it_f c1_2 h
        by_cases c1_3 : x1 = 3
        · replace h := it_t c1_3 h
          refine lv_tableIn (off := 45) (tgt := 46) hx hb dX2_bound_1 (by rw [c1_3]; decide) (by rw [c1_3]; decide) (by rw [c1_3]; rfl) (by decide) ?_
          refine lv_bipush (v := 100) hx hb dX2_bound_46 (by decide) ?_
          exact rt_i (r := (100 : Int32)) C hP hD hS dX2_bound_48 ⟨Option.some.inj h, rfl⟩
        · replace h := it_f c1_3 h
          by_cases c1_4 : x1 = 4
          · replace h := it_t c1_4 h
            refine lv_tableIn (off := 45) (tgt := 46) hx hb dX2_bound_1 (by rw [c1_4]; decide) (by rw [c1_4]; decide) (by rw [c1_4]; rfl) (by decide) ?_
            refine lv_bipush (v := 100) hx hb dX2_bound_46 (by decide) ?_
            exact rt_i (r := (100 : Int32)) C hP hD hS dX2_bound_48 ⟨Option.some.inj h, rfl⟩
          · replace h := it_f c1_4 h
            have e1_0 : x1.toInt ≠ 0 := fun q => c1_0 (Int32.toInt_inj.mp (q.trans (by decide)))
            have e1_1 : x1.toInt ≠ 1 := fun q => c1_1 (Int32.toInt_inj.mp (q.trans (by decide)))
            have e1_2 : x1.toInt ≠ 2 := fun q => c1_2 (Int32.toInt_inj.mp (q.trans (by decide)))
            have e1_3 : x1.toInt ≠ 3 := fun q => c1_3 (Int32.toInt_inj.mp (q.trans (by decide)))
            have e1_4 : x1.toInt ≠ 4 := fun q => c1_4 (Int32.toInt_inj.mp (q.trans (by decide)))
            refine lv_tableOut (tgt := 49) hx hb dX2_bound_1 (by omega) (by decide) ?_
            refine lv_iconst (v := 0) hx hb dX2_bound_49 (by decide) ?_
            exact rt_i (r := (0 : Int32)) C hP hD hS dX2_bound_50 ⟨Option.some.inj h, rfl⟩
def f_X2_bound (j0 : Nat) (x1 : Int32) (M : Mem) : Option (Int32) := b_X2_bound_0 M j0 x1
theorem c_X2_bound {l : Launch} {D : va_G} {cy : Nat → ClassId} {ad : Nat → Nat} {zz : (Nat → Nat) × (Nat → Nat)} {j0 : Nat} (hk_j0 : kd j0 = 2) {x1 : Int32} {M : Mem} {rr : Int32} (h : f_X2_bound j0 x1 M = some rr) : CTi l D cy ad zz 0 82 yX2_bound (.code yX2_bound cX2_bound 2 (some .int) :: tb) ({ frames := 0, cells := 0, slots := 0, locals := 0 } : Room) [.ref (ad j0), .int x1] M rr M := by
  intro sz
  refine CX.of (by decide +kernel) (fun p e s m args below meth c H ls C hP hD hS hl => ?_) (Nat.le_of_ble_eq_true rfl)
  exact w_X2_bound_0 C hk_j0 hP hD hS hl h
theorem ev_X2_bound : yX2_bound.cls = RX2 ∧ yX2_bound.cls ≠ "java/lang/invoke/MethodHandle" ∧ yX2_bound.cls ≠ "java/lang/invoke/VarHandle" ∧ (parseMethodDescriptor yX2_bound.desc).map (fun d => d.parameters.length) = some 1 := by decide +kernel
def b_X2_part_0 (M : Mem) (j0 : Nat) (x1 : Int32) : Option (Int32) := (if x1 = 0 then some (FI M j0 2) else (if x1 = 1 then some (FI M j0 3) else (if x1 = 2 then some (FI M j0 4) else (if x1 = 3 then some (FI M j0 5) else some (FI M j0 6)))))
set_option maxHeartbeats 4000000 in
set_option maxRecDepth 100000 in
theorem w_X2_part_0 (C : CX p s m args meth c cX2_part 2 (some .int) RX2 D cy ad zz 0 82 A) {M : Mem} {j0 : Nat} (hk_j0 : kd j0 = 2) {x1 : Int32} {rr : Int32} {H : Heap} {locs : List Loc} (hP : va_P D vwCl (pool cy ad 0 82 M) H) (hD : va_D A (pool cy ad 0 82 M)) (hS : va_S A s.heap H locs) {ls : Array Slot} (hl : lv_has ls 2 [(0, .ref (ad j0)), (1, .int x1)]) (h : b_X2_part_0 M j0 x1 = some rr) : W p l e ({ frames := 0, cells := 0, slots := 0, locals := 0 } : Room) s m args below meth c H locs 0 0 (MQ below (va_Qi (fun (x : Int32) (_ : Unit) => x = rr) (fun _ t => PA D cy ad 0 82 A M t) A) args s 0 0 A) (F0 m 0 ls []) := by
  obtain ⟨hx, hb, hml, hown, hts, hr, hlk, hK, hN, hA, hX⟩ := id C
  unfold b_X2_part_0 at h
  refine lv_iload_n hx hb dX2_part_0 rfl (lv_at hl 1 rfl) ?_
  by_cases c1_0 : x1 = 0
  · replace h := it_t c1_0 h
    refine lv_tableIn (off := 31) (tgt := 32) hx hb dX2_part_1 (by rw [c1_0]; decide) (by rw [c1_0]; decide) (by rw [c1_0]; rfl) (by decide) ?_
    refine lv_aload_n hx hb dX2_part_32 rfl (lv_at hl 0 rfl) ?_
    refine gf_2_2 C hP (p_2 hk_j0) hk_j0 wd_104 dX2_part_33 ?_
    exact rt_i (r := (FI M j0 2)) C hP hD hS dX2_part_36 ⟨Option.some.inj h, rfl⟩
  · replace h := it_f c1_0 h
    by_cases c1_1 : x1 = 1
    · replace h := it_t c1_1 h
      refine lv_tableIn (off := 36) (tgt := 37) hx hb dX2_part_1 (by rw [c1_1]; decide) (by rw [c1_1]; decide) (by rw [c1_1]; rfl) (by decide) ?_
      refine lv_aload_n hx hb dX2_part_37 rfl (lv_at hl 0 rfl) ?_
      refine gf_2_3 C hP (p_2 hk_j0) hk_j0 wd_107 dX2_part_38 ?_
      exact rt_i (r := (FI M j0 3)) C hP hD hS dX2_part_41 ⟨Option.some.inj h, rfl⟩
    · replace h := it_f c1_1 h
      by_cases c1_2 : x1 = 2
      · replace h := it_t c1_2 h
        refine lv_tableIn (off := 41) (tgt := 42) hx hb dX2_part_1 (by rw [c1_2]; decide) (by rw [c1_2]; decide) (by rw [c1_2]; rfl) (by decide) ?_
        refine lv_aload_n hx hb dX2_part_42 rfl (lv_at hl 0 rfl) ?_
        refine gf_2_4 C hP (p_2 hk_j0) hk_j0 wd_109 dX2_part_43 ?_
        exact rt_i (r := (FI M j0 4)) C hP hD hS dX2_part_46 ⟨Option.some.inj h, rfl⟩
      · replace h := it_f c1_2 h
        by_cases c1_3 : x1 = 3
        · replace h := it_t c1_3 h
          refine lv_tableIn (off := 46) (tgt := 47) hx hb dX2_part_1 (by rw [c1_3]; decide) (by rw [c1_3]; decide) (by rw [c1_3]; rfl) (by decide) ?_
          refine lv_aload_n hx hb dX2_part_47 rfl (lv_at hl 0 rfl) ?_
          refine gf_2_5 C hP (p_2 hk_j0) hk_j0 wd_111 dX2_part_48 ?_
          exact rt_i (r := (FI M j0 5)) C hP hD hS dX2_part_51 ⟨Option.some.inj h, rfl⟩
        · replace h := it_f c1_3 h
          have e1_0 : x1.toInt ≠ 0 := fun q => c1_0 (Int32.toInt_inj.mp (q.trans (by decide)))
          have e1_1 : x1.toInt ≠ 1 := fun q => c1_1 (Int32.toInt_inj.mp (q.trans (by decide)))
          have e1_2 : x1.toInt ≠ 2 := fun q => c1_2 (Int32.toInt_inj.mp (q.trans (by decide)))
          have e1_3 : x1.toInt ≠ 3 := fun q => c1_3 (Int32.toInt_inj.mp (q.trans (by decide)))
          refine lv_tableOut (tgt := 52) hx hb dX2_part_1 (by omega) (by decide) ?_
          refine lv_aload_n hx hb dX2_part_52 rfl (lv_at hl 0 rfl) ?_
          refine gf_2_6 C hP (p_2 hk_j0) hk_j0 wd_113 dX2_part_53 ?_
          exact rt_i (r := (FI M j0 6)) C hP hD hS dX2_part_56 ⟨Option.some.inj h, rfl⟩
def f_X2_part (j0 : Nat) (x1 : Int32) (M : Mem) : Option (Int32) := b_X2_part_0 M j0 x1
theorem c_X2_part {l : Launch} {D : va_G} {cy : Nat → ClassId} {ad : Nat → Nat} {zz : (Nat → Nat) × (Nat → Nat)} {j0 : Nat} (hk_j0 : kd j0 = 2) {x1 : Int32} {M : Mem} {rr : Int32} (h : f_X2_part j0 x1 M = some rr) : CTi l D cy ad zz 0 82 yX2_part (.code yX2_part cX2_part 2 (some .int) :: tb) ({ frames := 0, cells := 0, slots := 0, locals := 0 } : Room) [.ref (ad j0), .int x1] M rr M := by
  intro sz
  refine CX.of (by decide +kernel) (fun p e s m args below meth c H ls C hP hD hS hl => ?_) (Nat.le_of_ble_eq_true rfl)
  exact w_X2_part_0 C hk_j0 hP hD hS hl h
theorem ev_X2_part : yX2_part.cls = RX2 ∧ yX2_part.cls ≠ "java/lang/invoke/MethodHandle" ∧ yX2_part.cls ≠ "java/lang/invoke/VarHandle" ∧ (parseMethodDescriptor yX2_part.desc).map (fun d => d.parameters.length) = some 1 := by decide +kernel
def b_X2_become_0 (j0 : Nat) (x1 : Int32) (x2 : Int32) (M : Mem) : Option (Mem) := (if x1 = 0 then some (sFI M j0 2 x2) else (if x1 = 1 then some (sFI M j0 3 x2) else (if x1 = 2 then some (sFI M j0 4 x2) else (if x1 = 3 then some (sFI M j0 5 x2) else (if x1 = 4 then some (sFI M j0 6 x2) else some M)))))
set_option maxHeartbeats 4000000 in
set_option maxRecDepth 100000 in
theorem w_X2_become_0 (C : CX p s m args meth c cX2_become 3 none RX2 D cy ad zz 0 82 A) {M : Mem} {j0 : Nat} (hk_j0 : kd j0 = 2) {x1 : Int32} {x2 : Int32} {M' : Mem} {H : Heap} {locs : List Loc} (hP : va_P D vwCl (pool cy ad 0 82 M) H) (hD : va_D A (pool cy ad 0 82 M)) (hS : va_S A s.heap H locs) {ls : Array Slot} (hl : lv_has ls 3 [(0, .ref (ad j0)), (1, .int x1), (2, .int x2)]) (h : b_X2_become_0 j0 x1 x2 M = some M') : W p l e ({ frames := 0, cells := 0, slots := 0, locals := 0 } : Room) s m args below meth c H locs 0 0 (MQ below (va_Qv (fun (_ : Unit) => True) (fun _ t => PA D cy ad 0 82 A M' t) A) args s 0 0 A) (F0 m 0 ls []) := by
  obtain ⟨hx, hb, hml, hown, hts, hr, hlk, hK, hN, hA, hX⟩ := id C
  unfold b_X2_become_0 at h
  refine lv_iload_n hx hb dX2_become_0 rfl (lv_at hl 1 rfl) ?_
  by_cases c1_0 : x1 = 0
  · replace h := it_t c1_0 h
    refine lv_tableIn (off := 35) (tgt := 36) hx hb dX2_become_1 (by rw [c1_0]; decide) (by rw [c1_0]; decide) (by rw [c1_0]; rfl) (by decide) ?_
    refine lv_aload_n hx hb dX2_become_36 rfl (lv_at hl 0 rfl) ?_
    refine lv_iload_n hx hb dX2_become_37 rfl (lv_at hl 2 rfl) ?_
    refine pf_2_2 C hP hD hS (p_2 hk_j0) hk_j0 wd_104 dX2_become_38 (fun H locs hP hD hS => ?_)
    refine lv_goto (tgt := 76) hx hb dX2_become_41 (by decide) ?_
    exact rt_v C hP hD hS dX2_become_76 (Option.some.inj h)
  · replace h := it_f c1_0 h
    by_cases c1_1 : x1 = 1
    · replace h := it_t c1_1 h
      refine lv_tableIn (off := 43) (tgt := 44) hx hb dX2_become_1 (by rw [c1_1]; decide) (by rw [c1_1]; decide) (by rw [c1_1]; rfl) (by decide) ?_
      refine lv_aload_n hx hb dX2_become_44 rfl (lv_at hl 0 rfl) ?_
      refine lv_iload_n hx hb dX2_become_45 rfl (lv_at hl 2 rfl) ?_
      refine pf_2_3 C hP hD hS (p_2 hk_j0) hk_j0 wd_107 dX2_become_46 (fun H locs hP hD hS => ?_)
      refine lv_goto (tgt := 76) hx hb dX2_become_49 (by decide) ?_
      exact rt_v C hP hD hS dX2_become_76 (Option.some.inj h)
    · replace h := it_f c1_1 h
      by_cases c1_2 : x1 = 2
      · replace h := it_t c1_2 h
        refine lv_tableIn (off := 51) (tgt := 52) hx hb dX2_become_1 (by rw [c1_2]; decide) (by rw [c1_2]; decide) (by rw [c1_2]; rfl) (by decide) ?_
        refine lv_aload_n hx hb dX2_become_52 rfl (lv_at hl 0 rfl) ?_
        refine lv_iload_n hx hb dX2_become_53 rfl (lv_at hl 2 rfl) ?_
        refine pf_2_4 C hP hD hS (p_2 hk_j0) hk_j0 wd_109 dX2_become_54 (fun H locs hP hD hS => ?_)
        refine lv_goto (tgt := 76) hx hb dX2_become_57 (by decide) ?_
        exact rt_v C hP hD hS dX2_become_76 (Option.some.inj h)
      · replace h := it_f c1_2 h
        by_cases c1_3 : x1 = 3
        · replace h := it_t c1_3 h
          refine lv_tableIn (off := 59) (tgt := 60) hx hb dX2_become_1 (by rw [c1_3]; decide) (by rw [c1_3]; decide) (by rw [c1_3]; rfl) (by decide) ?_
          refine lv_aload_n hx hb dX2_become_60 rfl (lv_at hl 0 rfl) ?_
          refine lv_iload_n hx hb dX2_become_61 rfl (lv_at hl 2 rfl) ?_
          refine pf_2_5 C hP hD hS (p_2 hk_j0) hk_j0 wd_111 dX2_become_62 (fun H locs hP hD hS => ?_)
          refine lv_goto (tgt := 76) hx hb dX2_become_65 (by decide) ?_
          exact rt_v C hP hD hS dX2_become_76 (Option.some.inj h)
        · replace h := it_f c1_3 h
          by_cases c1_4 : x1 = 4
          · replace h := it_t c1_4 h
            refine lv_tableIn (off := 67) (tgt := 68) hx hb dX2_become_1 (by rw [c1_4]; decide) (by rw [c1_4]; decide) (by rw [c1_4]; rfl) (by decide) ?_
            refine lv_aload_n hx hb dX2_become_68 rfl (lv_at hl 0 rfl) ?_
            refine lv_iload_n hx hb dX2_become_69 rfl (lv_at hl 2 rfl) ?_
            refine pf_2_6 C hP hD hS (p_2 hk_j0) hk_j0 wd_113 dX2_become_70 (fun H locs hP hD hS => ?_)
            refine lv_goto (tgt := 76) hx hb dX2_become_73 (by decide) ?_
            exact rt_v C hP hD hS dX2_become_76 (Option.some.inj h)
          · replace h := it_f c1_4 h
            have e1_0 : x1.toInt ≠ 0 := fun q => c1_0 (Int32.toInt_inj.mp (q.trans (by decide)))
            have e1_1 : x1.toInt ≠ 1 := fun q => c1_1 (Int32.toInt_inj.mp (q.trans (by decide)))
            have e1_2 : x1.toInt ≠ 2 := fun q => c1_2 (Int32.toInt_inj.mp (q.trans (by decide)))
            have e1_3 : x1.toInt ≠ 3 := fun q => c1_3 (Int32.toInt_inj.mp (q.trans (by decide)))
            have e1_4 : x1.toInt ≠ 4 := fun q => c1_4 (Int32.toInt_inj.mp (q.trans (by decide)))
            refine lv_tableOut (tgt := 76) hx hb dX2_become_1 (by omega) (by decide) ?_
            exact rt_v C hP hD hS dX2_become_76 (Option.some.inj h)
def f_X2_become (j0 : Nat) (x1 : Int32) (x2 : Int32) (M : Mem) : Option (Mem) := b_X2_become_0 j0 x1 x2 M
theorem c_X2_become {l : Launch} {D : va_G} {cy : Nat → ClassId} {ad : Nat → Nat} {zz : (Nat → Nat) × (Nat → Nat)} {j0 : Nat} (hk_j0 : kd j0 = 2) {x1 : Int32} {x2 : Int32} {M : Mem} {M' : Mem} (h : f_X2_become j0 x1 x2 M = some M') : CTv l D cy ad zz 0 82 yX2_become (.code yX2_become cX2_become 3 none :: tb) ({ frames := 0, cells := 0, slots := 0, locals := 0 } : Room) [.ref (ad j0), .int x1, .int x2] M M' := by
  intro sz
  refine CX.of (by decide +kernel) (fun p e s m args below meth c H ls C hP hD hS hl => ?_) (Nat.le_of_ble_eq_true rfl)
  exact w_X2_become_0 C hk_j0 hP hD hS hl h
theorem ev_X2_become : yX2_become.cls = RX2 ∧ yX2_become.cls ≠ "java/lang/invoke/MethodHandle" ∧ yX2_become.cls ≠ "java/lang/invoke/VarHandle" ∧ (parseMethodDescriptor yX2_become.desc).map (fun d => d.parameters.length) = some 2 := by decide +kernel
def b_X2_stitchAt_0 (M : Mem) (j0 : Nat) (x1 : Int32) : Option (Int32) := (if x1 < 0 then some (0 : Int32) else (if (16 : Int32) ≤ x1 then some (0 : Int32) else gd (inb x1 (len (j0 + 19))) (some (AI M (j0 + 19) x1.toNatClampNeg))))
set_option maxHeartbeats 4000000 in
set_option maxRecDepth 100000 in
theorem w_X2_stitchAt_0 (C : CX p s m args meth c cX2_stitchAt 2 (some .int) RX2 D cy ad zz 0 82 A) {M : Mem} {j0 : Nat} (hk_j0 : kd j0 = 2) {x1 : Int32} {rr : Int32} {H : Heap} {locs : List Loc} (hP : va_P D vwCl (pool cy ad 0 82 M) H) (hD : va_D A (pool cy ad 0 82 M)) (hS : va_S A s.heap H locs) {ls : Array Slot} (hl : lv_has ls 2 [(0, .ref (ad j0)), (1, .int x1)]) (h : b_X2_stitchAt_0 M j0 x1 = some rr) : W p l e ({ frames := 0, cells := 0, slots := 0, locals := 0 } : Room) s m args below meth c H locs 0 0 (MQ below (va_Qi (fun (x : Int32) (_ : Unit) => x = rr) (fun _ t => PA D cy ad 0 82 A M t) A) args s 0 0 A) (F0 m 0 ls []) := by
  obtain ⟨hx, hb, hml, hown, hts, hr, hlk, hK, hN, hA, hX⟩ := id C
  unfold b_X2_stitchAt_0 at h
  refine lv_iload_n hx hb dX2_stitchAt_0 rfl (lv_at hl 1 rfl) ?_
  refine lv_if_lt (tgt := 19) hx hb dX2_stitchAt_1 (by decide) (fun c1 => ?_) (fun c1 => ?_)
  · replace h := it_t c1 h
    refine lv_iconst (v := 0) hx hb dX2_stitchAt_19 (by decide) ?_
    exact rt_i (r := (0 : Int32)) C hP hD hS dX2_stitchAt_20 ⟨Option.some.inj h, rfl⟩
  · replace h := it_f c1 h
    refine lv_iload_n hx hb dX2_stitchAt_4 rfl (lv_at hl 1 rfl) ?_
    refine lv_bipush (v := 16) hx hb dX2_stitchAt_5 (by decide) ?_
    refine lv_icmp_ge (tgt := 19) hx hb dX2_stitchAt_7 (by decide) (fun c7 => ?_) (fun c7 => ?_)
    · replace h := it_t c7 h
      refine lv_iconst (v := 0) hx hb dX2_stitchAt_19 (by decide) ?_
      exact rt_i (r := (0 : Int32)) C hP hD hS dX2_stitchAt_20 ⟨Option.some.inj h, rfl⟩
    · replace h := it_f c7 h
      refine lv_aload_n hx hb dX2_stitchAt_10 rfl (lv_at hl 0 rfl) ?_
      refine gf_2_9 C hP (p_2 hk_j0) hk_j0 wd_119 dX2_stitchAt_11 ?_
      refine lv_iload_n hx hb dX2_stitchAt_14 rfl (lv_at hl 1 rfl) ?_
      obtain ⟨gi1, h⟩ := gd_of h
      refine ia_ld C hP (p_2_9 hk_j0) (k_2_9 hk_j0) gi1 dX2_stitchAt_15 ?_
      refine lv_goto (tgt := 20) hx hb dX2_stitchAt_16 (by decide) ?_
      exact rt_i (r := (AI M (j0 + 19) x1.toNatClampNeg)) C hP hD hS dX2_stitchAt_20 ⟨Option.some.inj h, rfl⟩
def f_X2_stitchAt (j0 : Nat) (x1 : Int32) (M : Mem) : Option (Int32) := b_X2_stitchAt_0 M j0 x1
theorem c_X2_stitchAt {l : Launch} {D : va_G} {cy : Nat → ClassId} {ad : Nat → Nat} {zz : (Nat → Nat) × (Nat → Nat)} {j0 : Nat} (hk_j0 : kd j0 = 2) {x1 : Int32} {M : Mem} {rr : Int32} (h : f_X2_stitchAt j0 x1 M = some rr) : CTi l D cy ad zz 0 82 yX2_stitchAt (.code yX2_stitchAt cX2_stitchAt 2 (some .int) :: tb) ({ frames := 0, cells := 0, slots := 0, locals := 0 } : Room) [.ref (ad j0), .int x1] M rr M := by
  intro sz
  refine CX.of (by decide +kernel) (fun p e s m args below meth c H ls C hP hD hS hl => ?_) (Nat.le_of_ble_eq_true rfl)
  exact w_X2_stitchAt_0 C hk_j0 hP hD hS hl h
theorem ev_X2_stitchAt : yX2_stitchAt.cls = RX2 ∧ yX2_stitchAt.cls ≠ "java/lang/invoke/MethodHandle" ∧ yX2_stitchAt.cls ≠ "java/lang/invoke/VarHandle" ∧ (parseMethodDescriptor yX2_stitchAt.desc).map (fun d => d.parameters.length) = some 1 := by decide +kernel
def b_X2_stitchRound_0 (M : Mem) (j0 : Nat) (x1 : Int32) : Option (Int32) := (if (FI M j0 7) ≤ 0 then some (0 : Int32) else gd (decide (¬ (FI M j0 7) = 0)) ((f_X2_stitchAt j0 (x1 - x1 / (FI M j0 7) * (FI M j0 7)) M).bind fun r14 => some r14))
set_option maxHeartbeats 4000000 in
set_option maxRecDepth 100000 in
theorem w_X2_stitchRound_0 (C : CX p s m args meth c cX2_stitchRound 2 (some .int) RX2 D cy ad zz 0 82 A) {M : Mem} {j0 : Nat} (hk_j0 : kd j0 = 2) {x1 : Int32} {rr : Int32} {H : Heap} {locs : List Loc} (hP : va_P D vwCl (pool cy ad 0 82 M) H) (hD : va_D A (pool cy ad 0 82 M)) (hS : va_S A s.heap H locs) {ls : Array Slot} (hl : lv_has ls 2 [(0, .ref (ad j0)), (1, .int x1)]) (h : b_X2_stitchRound_0 M j0 x1 = some rr) : W p l e ({ frames := 1, cells := 0, slots := 0, locals := 21 } : Room) s m args below meth c H locs 0 0 (MQ below (va_Qi (fun (x : Int32) (_ : Unit) => x = rr) (fun _ t => PA D cy ad 0 82 A M t) A) args s 0 0 A) (F0 m 0 ls []) := by
  obtain ⟨hx, hb, hml, hown, hts, hr, hlk, hK, hN, hA, hX⟩ := id C
  unfold b_X2_stitchRound_0 at h
  refine lv_aload_n hx hb dX2_stitchRound_0 rfl (lv_at hl 0 rfl) ?_
  refine gf_2_7 C hP (p_2 hk_j0) hk_j0 wd_115 dX2_stitchRound_1 ?_
  refine lv_if_le (tgt := 20) hx hb dX2_stitchRound_4 (by decide) (fun c4 => ?_) (fun c4 => ?_)
  · replace h := it_t c4 h
    refine lv_iconst (v := 0) hx hb dX2_stitchRound_20 (by decide) ?_
    exact rt_i (r := (0 : Int32)) C hP hD hS dX2_stitchRound_21 ⟨Option.some.inj h, rfl⟩
  · replace h := it_f c4 h
    refine lv_aload_n hx hb dX2_stitchRound_7 rfl (lv_at hl 0 rfl) ?_
    refine lv_iload_n hx hb dX2_stitchRound_8 rfl (lv_at hl 1 rfl) ?_
    refine lv_aload_n hx hb dX2_stitchRound_9 rfl (lv_at hl 0 rfl) ?_
    refine gf_2_7 C hP (p_2 hk_j0) hk_j0 wd_115 dX2_stitchRound_10 ?_
    obtain ⟨gz1, h⟩ := gd_of h
    refine lv_irem hx hb dX2_stitchRound_13 (of_decide_eq_true gz1) ?_
    obtain ⟨r14, g14, h⟩ := bd_of h
    refine call_iV (As := [.int (x1 - x1 / (FI M j0 7) * (FI M j0 7))]) (rest := []) C hP hD hS (c_X2_stitchAt hk_j0 g14) (p_2 hk_j0) ⟨2, _, _, ent_2 hk_j0, rfl, rfl⟩ (gV wd_603 wd_545 wd_546 wd_66 wd_547) ev_X2_stitchAt ⟨rfl, rfl⟩ ⟨Nat.le_of_ble_eq_true rfl, Nat.le_of_ble_eq_true rfl⟩ hl.1 rfl (Nat.le_of_ble_eq_true rfl) dX2_stitchRound_14 (fun H locs hP hD hS => ?_)
    refine lv_goto (tgt := 21) hx hb dX2_stitchRound_17 (by decide) ?_
    exact rt_i (r := r14) C hP hD hS dX2_stitchRound_21 ⟨Option.some.inj h, rfl⟩
def f_X2_stitchRound (j0 : Nat) (x1 : Int32) (M : Mem) : Option (Int32) := b_X2_stitchRound_0 M j0 x1
theorem c_X2_stitchRound {l : Launch} {D : va_G} {cy : Nat → ClassId} {ad : Nat → Nat} {zz : (Nat → Nat) × (Nat → Nat)} {j0 : Nat} (hk_j0 : kd j0 = 2) {x1 : Int32} {M : Mem} {rr : Int32} (h : f_X2_stitchRound j0 x1 M = some rr) : CTi l D cy ad zz 0 82 yX2_stitchRound (.code yX2_stitchRound cX2_stitchRound 2 (some .int) :: tb) ({ frames := 1, cells := 0, slots := 0, locals := 21 } : Room) [.ref (ad j0), .int x1] M rr M := by
  intro sz
  refine CX.of (by decide +kernel) (fun p e s m args below meth c H ls C hP hD hS hl => ?_) (Nat.le_of_ble_eq_true rfl)
  exact w_X2_stitchRound_0 C hk_j0 hP hD hS hl h
theorem ev_X2_stitchRound : yX2_stitchRound.cls = RX2 ∧ yX2_stitchRound.cls ≠ "java/lang/invoke/MethodHandle" ∧ yX2_stitchRound.cls ≠ "java/lang/invoke/VarHandle" ∧ (parseMethodDescriptor yX2_stitchRound.desc).map (fun d => d.parameters.length) = some 1 := by decide +kernel
def b_X2_mend_0 (j0 : Nat) (x1 : Int32) (x2 : Int32) (M : Mem) : Option (Mem) := (if x1 < 0 then some M else (if (16 : Int32) ≤ x1 then some M else gd (inb x1 (len (j0 + 19))) (some (sAI M (j0 + 19) x1.toNatClampNeg x2))))
set_option maxHeartbeats 4000000 in
set_option maxRecDepth 100000 in
theorem w_X2_mend_0 (C : CX p s m args meth c cX2_mend 3 none RX2 D cy ad zz 0 82 A) {M : Mem} {j0 : Nat} (hk_j0 : kd j0 = 2) {x1 : Int32} {x2 : Int32} {M' : Mem} {H : Heap} {locs : List Loc} (hP : va_P D vwCl (pool cy ad 0 82 M) H) (hD : va_D A (pool cy ad 0 82 M)) (hS : va_S A s.heap H locs) {ls : Array Slot} (hl : lv_has ls 3 [(0, .ref (ad j0)), (1, .int x1), (2, .int x2)]) (h : b_X2_mend_0 j0 x1 x2 M = some M') : W p l e ({ frames := 0, cells := 0, slots := 0, locals := 0 } : Room) s m args below meth c H locs 0 0 (MQ below (va_Qv (fun (_ : Unit) => True) (fun _ t => PA D cy ad 0 82 A M' t) A) args s 0 0 A) (F0 m 0 ls []) := by
  obtain ⟨hx, hb, hml, hown, hts, hr, hlk, hK, hN, hA, hX⟩ := id C
  unfold b_X2_mend_0 at h
  refine lv_iload_n hx hb dX2_mend_0 rfl (lv_at hl 1 rfl) ?_
  refine lv_if_lt (tgt := 17) hx hb dX2_mend_1 (by decide) (fun c1 => ?_) (fun c1 => ?_)
  · replace h := it_t c1 h
    exact rt_v C hP hD hS dX2_mend_17 (Option.some.inj h)
  · replace h := it_f c1 h
    refine lv_iload_n hx hb dX2_mend_4 rfl (lv_at hl 1 rfl) ?_
    refine lv_bipush (v := 16) hx hb dX2_mend_5 (by decide) ?_
    refine lv_icmp_ge (tgt := 17) hx hb dX2_mend_7 (by decide) (fun c7 => ?_) (fun c7 => ?_)
    · replace h := it_t c7 h
      exact rt_v C hP hD hS dX2_mend_17 (Option.some.inj h)
    · replace h := it_f c7 h
      refine lv_aload_n hx hb dX2_mend_10 rfl (lv_at hl 0 rfl) ?_
      refine gf_2_9 C hP (p_2 hk_j0) hk_j0 wd_119 dX2_mend_11 ?_
      refine lv_iload_n hx hb dX2_mend_14 rfl (lv_at hl 1 rfl) ?_
      refine lv_iload_n hx hb dX2_mend_15 rfl (lv_at hl 2 rfl) ?_
      obtain ⟨gi1, h⟩ := gd_of h
      refine ia_st C hP hD hS (p_2_9 hk_j0) (k_2_9 hk_j0) gi1 dX2_mend_16 (fun H locs hP hD hS => ?_)
      exact rt_v C hP hD hS dX2_mend_17 (Option.some.inj h)
def f_X2_mend (j0 : Nat) (x1 : Int32) (x2 : Int32) (M : Mem) : Option (Mem) := b_X2_mend_0 j0 x1 x2 M
theorem c_X2_mend {l : Launch} {D : va_G} {cy : Nat → ClassId} {ad : Nat → Nat} {zz : (Nat → Nat) × (Nat → Nat)} {j0 : Nat} (hk_j0 : kd j0 = 2) {x1 : Int32} {x2 : Int32} {M : Mem} {M' : Mem} (h : f_X2_mend j0 x1 x2 M = some M') : CTv l D cy ad zz 0 82 yX2_mend (.code yX2_mend cX2_mend 3 none :: tb) ({ frames := 0, cells := 0, slots := 0, locals := 0 } : Room) [.ref (ad j0), .int x1, .int x2] M M' := by
  intro sz
  refine CX.of (by decide +kernel) (fun p e s m args below meth c H ls C hP hD hS hl => ?_) (Nat.le_of_ble_eq_true rfl)
  exact w_X2_mend_0 C hk_j0 hP hD hS hl h
theorem ev_X2_mend : yX2_mend.cls = RX2 ∧ yX2_mend.cls ≠ "java/lang/invoke/MethodHandle" ∧ yX2_mend.cls ≠ "java/lang/invoke/VarHandle" ∧ (parseMethodDescriptor yX2_mend.desc).map (fun d => d.parameters.length) = some 2 := by decide +kernel
def b_X2_wear_15 (N : Nat) (j0 : Nat) (j1 : Nat) : Nat → Int32 → Mem → Option (Mem)
  | 0, _, _ => none
  | fu + 1, x2, M => (if (FI M j0 7) ≤ x2 then some M else (f_X1_read j1 x2 M).bind fun r27 => (f_X2_mend j0 x2 r27 M).bind fun M30 => b_X2_wear_15 N j0 j1 fu (x2 + (1 : Int32)) M30)
set_option maxHeartbeats 4000000 in
set_option maxRecDepth 100000 in
theorem w_X2_wear_15 (C : CX p s m args meth c cX2_wear 3 none RX2 D cy ad zz 0 82 A) {N : Nat} {j0 : Nat} (hk_j0 : kd j0 = 2) {j1 : Nat} (hk_j1 : kd j1 = 1) {M' : Mem}  : ∀ (fu : Nat), ∀ (x2 : Int32), ∀ (M : Mem), ∀ (H : Heap) (locs : List Loc), va_P D vwCl (pool cy ad 0 82 M) H → va_D A (pool cy ad 0 82 M) → va_S A s.heap H locs → ∀ (ls : Array Slot), lv_has ls 3 [(0, .ref (ad j0)), (1, .ref (ad j1)), (2, .int x2)] → b_X2_wear_15 N j0 j1 fu x2 M = some M' → W p l e ({ frames := 2, cells := 0, slots := 0, locals := 42 } : Room) s m args below meth c H locs 0 0 (MQ below (va_Qv (fun (_ : Unit) => True) (fun _ t => PA D cy ad 0 82 A M' t) A) args s 0 0 A) (F0 m 15 ls []) := by
  obtain ⟨hx, hb, hml, hown, hts, hr, hlk, hK, hN, hA, hX⟩ := id C
  intro fu
  induction fu with
  | zero =>
    intro x2 M H locs hP hD hS ls hl h
    exact no_some (show none = some _ from h)
  | succ fu ih =>
    intro x2 M H locs hP hD hS ls hl h
    rw [b_X2_wear_15] at h
    refine lv_iload_n hx hb dX2_wear_15 rfl (lv_at hl 2 rfl) ?_
    refine lv_aload_n hx hb dX2_wear_16 rfl (lv_at hl 0 rfl) ?_
    refine gf_2_7 C hP (p_2 hk_j0) hk_j0 wd_115 dX2_wear_17 ?_
    refine lv_icmp_ge (tgt := 39) hx hb dX2_wear_20 (by decide) (fun c20 => ?_) (fun c20 => ?_)
    · replace h := it_t c20 h
      exact rt_v C hP hD hS dX2_wear_39 (Option.some.inj h)
    · replace h := it_f c20 h
      refine lv_aload_n hx hb dX2_wear_23 rfl (lv_at hl 0 rfl) ?_
      refine lv_iload_n hx hb dX2_wear_24 rfl (lv_at hl 2 rfl) ?_
      refine lv_aload_n hx hb dX2_wear_25 rfl (lv_at hl 1 rfl) ?_
      refine lv_iload_n hx hb dX2_wear_26 rfl (lv_at hl 2 rfl) ?_
      obtain ⟨r27, g27, h⟩ := bd_of h
      refine call_iV (As := [.int x2]) (rest := [.int x2, .ref (ad j0)]) C hP hD hS (c_X1_read hk_j1 g27) (p_1 hk_j1) ⟨1, _, _, ent_1 hk_j1, rfl, rfl⟩ (gV wd_575 wd_564 wd_565 wd_68 wd_566) ev_X1_read ⟨rfl, rfl⟩ ⟨Nat.le_of_ble_eq_true rfl, Nat.le_of_ble_eq_true rfl⟩ hl.1 rfl (Nat.le_of_ble_eq_true rfl) dX2_wear_27 (fun H locs hP hD hS => ?_)
      obtain ⟨M30, g30, h⟩ := bd_of h
      refine call_vV (As := [.int x2, .int r27]) (rest := []) C hP hD hS (c_X2_mend hk_j0 g30) (p_2 hk_j0) ⟨2, _, _, ent_2 hk_j0, rfl, rfl⟩ (gV wd_576 wd_577 wd_578 wd_66 wd_579) ev_X2_mend ⟨rfl, rfl⟩ ⟨Nat.le_of_ble_eq_true rfl, Nat.le_of_ble_eq_true rfl⟩ hl.1 rfl (Nat.le_of_ble_eq_true rfl) dX2_wear_30 (fun H locs hP hD hS => ?_)
      refine lv_iinc (v := (x2 + (1 : Int32))) (lv' := [(2, .int (x2 + (1 : Int32))), (0, .ref (ad j0)), (1, .ref (ad j1))]) hx hb dX2_wear_33 hl (k := 2) rfl rfl (by decide) rfl (fun ls hl => ?_)
      refine lv_goto (tgt := 15) hx hb dX2_wear_36 (by decide) ?_
      exact ih _ _ _ _ hP hD hS _ (lv_sub hl [1, 2, 0] rfl) h
def b_X2_wear_13 (N : Nat) (j0 : Nat) (j1 : Nat) (M : Mem) : Option (Mem) := b_X2_wear_15 N j0 j1 N (0 : Int32) M
set_option maxHeartbeats 4000000 in
set_option maxRecDepth 100000 in
theorem w_X2_wear_13 (C : CX p s m args meth c cX2_wear 3 none RX2 D cy ad zz 0 82 A) {N : Nat} {M : Mem} {j0 : Nat} (hk_j0 : kd j0 = 2) {j1 : Nat} (hk_j1 : kd j1 = 1) {M' : Mem} {H : Heap} {locs : List Loc} (hP : va_P D vwCl (pool cy ad 0 82 M) H) (hD : va_D A (pool cy ad 0 82 M)) (hS : va_S A s.heap H locs) {ls : Array Slot} (hl : lv_has ls 3 [(0, .ref (ad j0)), (1, .ref (ad j1))]) (h : b_X2_wear_13 N j0 j1 M = some M') : W p l e ({ frames := 2, cells := 0, slots := 0, locals := 42 } : Room) s m args below meth c H locs 0 0 (MQ below (va_Qv (fun (_ : Unit) => True) (fun _ t => PA D cy ad 0 82 A M' t) A) args s 0 0 A) (F0 m 13 ls []) := by
  obtain ⟨hx, hb, hml, hown, hts, hr, hlk, hK, hN, hA, hX⟩ := id C
  unfold b_X2_wear_13 at h
  refine lv_iconst (v := 0) hx hb dX2_wear_13 (by decide) ?_
  refine lv_istore_n (lv' := [(2, .int (0 : Int32)), (0, .ref (ad j0)), (1, .ref (ad j1))]) hx hb dX2_wear_14 rfl hl (by decide) rfl (fun ls hl => ?_)
  exact w_X2_wear_15 C hk_j0 hk_j1 N _ _ _ _ hP hD hS _ (lv_sub hl [1, 2, 0] rfl) h
def b_X2_wear_8 (N : Nat) (j0 : Nat) (j1 : Nat) (M : Mem) : Option (Mem) := b_X2_wear_13 N j0 j1 (sFI M j0 4 (0 : Int32))
set_option maxHeartbeats 4000000 in
set_option maxRecDepth 100000 in
theorem w_X2_wear_8 (C : CX p s m args meth c cX2_wear 3 none RX2 D cy ad zz 0 82 A) {N : Nat} {M : Mem} {j0 : Nat} (hk_j0 : kd j0 = 2) {j1 : Nat} (hk_j1 : kd j1 = 1) {M' : Mem} {H : Heap} {locs : List Loc} (hP : va_P D vwCl (pool cy ad 0 82 M) H) (hD : va_D A (pool cy ad 0 82 M)) (hS : va_S A s.heap H locs) {ls : Array Slot} (hl : lv_has ls 3 [(0, .ref (ad j0)), (1, .ref (ad j1))]) (h : b_X2_wear_8 N j0 j1 M = some M') : W p l e ({ frames := 2, cells := 0, slots := 0, locals := 42 } : Room) s m args below meth c H locs 0 0 (MQ below (va_Qv (fun (_ : Unit) => True) (fun _ t => PA D cy ad 0 82 A M' t) A) args s 0 0 A) (F0 m 8 ls []) := by
  obtain ⟨hx, hb, hml, hown, hts, hr, hlk, hK, hN, hA, hX⟩ := id C
  unfold b_X2_wear_8 at h
  refine lv_aload_n hx hb dX2_wear_8 rfl (lv_at hl 0 rfl) ?_
  refine lv_iconst (v := 0) hx hb dX2_wear_9 (by decide) ?_
  refine pf_2_4 C hP hD hS (p_2 hk_j0) hk_j0 wd_109 dX2_wear_10 (fun H locs hP hD hS => ?_)
  exact w_X2_wear_13 C hk_j0 hk_j1 hP hD hS hl h
def b_X2_wear_0 (N : Nat) (j0 : Nat) (j1 : Nat) (M : Mem) : Option (Mem) := b_X2_wear_8 N j0 j1 (sFI M j0 7 (FI M j1 1))
set_option maxHeartbeats 4000000 in
set_option maxRecDepth 100000 in
theorem w_X2_wear_0 (C : CX p s m args meth c cX2_wear 3 none RX2 D cy ad zz 0 82 A) {N : Nat} {M : Mem} {j0 : Nat} (hk_j0 : kd j0 = 2) {j1 : Nat} (hk_j1 : kd j1 = 1) {M' : Mem} {H : Heap} {locs : List Loc} (hP : va_P D vwCl (pool cy ad 0 82 M) H) (hD : va_D A (pool cy ad 0 82 M)) (hS : va_S A s.heap H locs) {ls : Array Slot} (hl : lv_has ls 3 [(0, .ref (ad j0)), (1, .ref (ad j1))]) (h : b_X2_wear_0 N j0 j1 M = some M') : W p l e ({ frames := 2, cells := 0, slots := 0, locals := 42 } : Room) s m args below meth c H locs 0 0 (MQ below (va_Qv (fun (_ : Unit) => True) (fun _ t => PA D cy ad 0 82 A M' t) A) args s 0 0 A) (F0 m 0 ls []) := by
  obtain ⟨hx, hb, hml, hown, hts, hr, hlk, hK, hN, hA, hX⟩ := id C
  unfold b_X2_wear_0 at h
  refine lv_aload_n hx hb dX2_wear_0 rfl (lv_at hl 0 rfl) ?_
  refine lv_aload_n hx hb dX2_wear_1 rfl (lv_at hl 1 rfl) ?_
  refine gf_1_1 C hP (p_1 hk_j1) hk_j1 wd_199 dX2_wear_2 ?_
  refine pf_2_7 C hP hD hS (p_2 hk_j0) hk_j0 wd_115 dX2_wear_5 (fun H locs hP hD hS => ?_)
  exact w_X2_wear_8 C hk_j0 hk_j1 hP hD hS hl h
def f_X2_wear (N : Nat) (j0 : Nat) (j1 : Nat) (M : Mem) : Option (Mem) := b_X2_wear_0 N j0 j1 M
theorem c_X2_wear {l : Launch} {D : va_G} {cy : Nat → ClassId} {ad : Nat → Nat} {zz : (Nat → Nat) × (Nat → Nat)} {N : Nat} {j0 : Nat} (hk_j0 : kd j0 = 2) {j1 : Nat} (hk_j1 : kd j1 = 1) {M : Mem} {M' : Mem} (h : f_X2_wear N j0 j1 M = some M') : CTv l D cy ad zz 0 82 yX2_wear (.code yX2_wear cX2_wear 3 none :: tb) ({ frames := 2, cells := 0, slots := 0, locals := 42 } : Room) [.ref (ad j0), .ref (ad j1)] M M' := by
  intro sz
  refine CX.of (by decide +kernel) (fun p e s m args below meth c H ls C hP hD hS hl => ?_) (Nat.le_of_ble_eq_true rfl)
  exact w_X2_wear_0 C hk_j0 hk_j1 hP hD hS hl h
theorem ev_X2_wear : yX2_wear.cls = RX2 ∧ yX2_wear.cls ≠ "java/lang/invoke/MethodHandle" ∧ yX2_wear.cls ≠ "java/lang/invoke/VarHandle" ∧ (parseMethodDescriptor yX2_wear.desc).map (fun d => d.parameters.length) = some 1 := by decide +kernel
def b_X2_isA_0 (M : Mem) (j0 : Nat) (x1 : Int32) : Option (Bool) := (if x1 = 0 then some true else (if x1 = 1 then (if (FI M j0 0) = (1 : Int32) then some true else (if (FI M j0 0) = (3 : Int32) then some true else some false)) else (if x1 = 2 then (if (FI M j0 0) = (2 : Int32) then some true else (if (FI M j0 0) = (4 : Int32) then some true else some false)) else (if (FI M j0 0) = x1 then some true else some false))))
set_option maxHeartbeats 4000000 in
set_option maxRecDepth 100000 in
theorem w_X2_isA_0 (C : CX p s m args meth c cX2_isA 2 (some .boolean) RX2 D cy ad zz 0 82 A) {M : Mem} {j0 : Nat} (hk_j0 : kd j0 = 2) {x1 : Int32} {rr : Bool} {H : Heap} {locs : List Loc} (hP : va_P D vwCl (pool cy ad 0 82 M) H) (hD : va_D A (pool cy ad 0 82 M)) (hS : va_S A s.heap H locs) {ls : Array Slot} (hl : lv_has ls 2 [(0, .ref (ad j0)), (1, .int x1)]) (h : b_X2_isA_0 M j0 x1 = some rr) : W p l e ({ frames := 0, cells := 0, slots := 0, locals := 0 } : Room) s m args below meth c H locs 0 0 (MQ below (va_Qi (fun (x : Int32) (_ : Unit) => x = b2i rr) (fun _ t => PA D cy ad 0 82 A M t) A) args s 0 0 A) (F0 m 0 ls []) := by
  obtain ⟨hx, hb, hml, hown, hts, hr, hlk, hK, hN, hA, hX⟩ := id C
  unfold b_X2_isA_0 at h
  refine lv_iload_n hx hb dX2_isA_0 rfl (lv_at hl 1 rfl) ?_
  by_cases c1_0 : x1 = 0
  · replace h := it_t c1_0 h
    refine lv_tableIn (off := 27) (tgt := 28) hx hb dX2_isA_1 (by rw [c1_0]; decide) (by rw [c1_0]; decide) (by rw [c1_0]; rfl) (by decide) ?_
    refine lv_iconst (v := 1) hx hb dX2_isA_28 (by decide) ?_
    exact rt_z (r := true) C hP hD hS dX2_isA_29 ⟨Option.some.inj h, rfl⟩
  · replace h := it_f c1_0 h
    by_cases c1_1 : x1 = 1
    · replace h := it_t c1_1 h
      refine lv_tableIn (off := 29) (tgt := 30) hx hb dX2_isA_1 (by rw [c1_1]; decide) (by rw [c1_1]; decide) (by rw [c1_1]; rfl) (by decide) ?_
      refine lv_aload_n hx hb dX2_isA_30 rfl (lv_at hl 0 rfl) ?_
      refine gf_2_0 C hP (p_2 hk_j0) hk_j0 wd_100 dX2_isA_31 ?_
      refine lv_iconst (v := 1) hx hb dX2_isA_34 (by decide) ?_
      refine lv_icmp_eq (tgt := 46) hx hb dX2_isA_35 (by decide) (fun c35 => ?_) (fun c35 => ?_)
      · replace h := it_t c35 h
        refine lv_iconst (v := 1) hx hb dX2_isA_46 (by decide) ?_
        refine lv_goto (tgt := 51) hx hb dX2_isA_47 (by decide) ?_
        exact rt_z (r := true) C hP hD hS dX2_isA_51 ⟨Option.some.inj h, rfl⟩
      · replace h := it_f c35 h
        refine lv_aload_n hx hb dX2_isA_38 rfl (lv_at hl 0 rfl) ?_
        refine gf_2_0 C hP (p_2 hk_j0) hk_j0 wd_100 dX2_isA_39 ?_
        refine lv_iconst (v := 3) hx hb dX2_isA_42 (by decide) ?_
        refine lv_icmp_ne (tgt := 50) hx hb dX2_isA_43 (by decide) (fun c43 => ?_) (fun c43 => ?_)
        · replace h := it_f c43 h
          refine lv_iconst (v := 0) hx hb dX2_isA_50 (by decide) ?_
          exact rt_z (r := false) C hP hD hS dX2_isA_51 ⟨Option.some.inj h, rfl⟩
        · replace h := it_t c43 h
          refine lv_iconst (v := 1) hx hb dX2_isA_46 (by decide) ?_
          refine lv_goto (tgt := 51) hx hb dX2_isA_47 (by decide) ?_
          exact rt_z (r := true) C hP hD hS dX2_isA_51 ⟨Option.some.inj h, rfl⟩
    · replace h := it_f c1_1 h
      by_cases c1_2 : x1 = 2
      · replace h := it_t c1_2 h
        refine lv_tableIn (off := 51) (tgt := 52) hx hb dX2_isA_1 (by rw [c1_2]; decide) (by rw [c1_2]; decide) (by rw [c1_2]; rfl) (by decide) ?_
        refine lv_aload_n hx hb dX2_isA_52 rfl (lv_at hl 0 rfl) ?_
        refine gf_2_0 C hP (p_2 hk_j0) hk_j0 wd_100 dX2_isA_53 ?_
        refine lv_iconst (v := 2) hx hb dX2_isA_56 (by decide) ?_
        refine lv_icmp_eq (tgt := 68) hx hb dX2_isA_57 (by decide) (fun c57 => ?_) (fun c57 => ?_)
        · replace h := it_t c57 h
          refine lv_iconst (v := 1) hx hb dX2_isA_68 (by decide) ?_
          refine lv_goto (tgt := 73) hx hb dX2_isA_69 (by decide) ?_
          exact rt_z (r := true) C hP hD hS dX2_isA_73 ⟨Option.some.inj h, rfl⟩
        · replace h := it_f c57 h
          refine lv_aload_n hx hb dX2_isA_60 rfl (lv_at hl 0 rfl) ?_
          refine gf_2_0 C hP (p_2 hk_j0) hk_j0 wd_100 dX2_isA_61 ?_
          refine lv_iconst (v := 4) hx hb dX2_isA_64 (by decide) ?_
          refine lv_icmp_ne (tgt := 72) hx hb dX2_isA_65 (by decide) (fun c65 => ?_) (fun c65 => ?_)
          · replace h := it_f c65 h
            refine lv_iconst (v := 0) hx hb dX2_isA_72 (by decide) ?_
            exact rt_z (r := false) C hP hD hS dX2_isA_73 ⟨Option.some.inj h, rfl⟩
          · replace h := it_t c65 h
            refine lv_iconst (v := 1) hx hb dX2_isA_68 (by decide) ?_
            refine lv_goto (tgt := 73) hx hb dX2_isA_69 (by decide) ?_
            exact rt_z (r := true) C hP hD hS dX2_isA_73 ⟨Option.some.inj h, rfl⟩
      · replace h := it_f c1_2 h
        have e1_0 : x1.toInt ≠ 0 := fun q => c1_0 (Int32.toInt_inj.mp (q.trans (by decide)))
        have e1_1 : x1.toInt ≠ 1 := fun q => c1_1 (Int32.toInt_inj.mp (q.trans (by decide)))
        have e1_2 : x1.toInt ≠ 2 := fun q => c1_2 (Int32.toInt_inj.mp (q.trans (by decide)))
        refine lv_tableOut (tgt := 74) hx hb dX2_isA_1 (by omega) (by decide) ?_
        refine lv_aload_n hx hb dX2_isA_74 rfl (lv_at hl 0 rfl) ?_
        refine gf_2_0 C hP (p_2 hk_j0) hk_j0 wd_100 dX2_isA_75 ?_
        refine lv_iload_n hx hb dX2_isA_78 rfl (lv_at hl 1 rfl) ?_
        refine lv_icmp_ne (tgt := 86) hx hb dX2_isA_79 (by decide) (fun c79 => ?_) (fun c79 => ?_)
        · replace h := it_f c79 h
          refine lv_iconst (v := 0) hx hb dX2_isA_86 (by decide) ?_
          exact rt_z (r := false) C hP hD hS dX2_isA_87 ⟨Option.some.inj h, rfl⟩
        · replace h := it_t c79 h
          refine lv_iconst (v := 1) hx hb dX2_isA_82 (by decide) ?_
          refine lv_goto (tgt := 87) hx hb dX2_isA_83 (by decide) ?_
          exact rt_z (r := true) C hP hD hS dX2_isA_87 ⟨Option.some.inj h, rfl⟩
def f_X2_isA (j0 : Nat) (x1 : Int32) (M : Mem) : Option (Bool) := b_X2_isA_0 M j0 x1
theorem c_X2_isA {l : Launch} {D : va_G} {cy : Nat → ClassId} {ad : Nat → Nat} {zz : (Nat → Nat) × (Nat → Nat)} {j0 : Nat} (hk_j0 : kd j0 = 2) {x1 : Int32} {M : Mem} {rr : Bool} (h : f_X2_isA j0 x1 M = some rr) : CTi l D cy ad zz 0 82 yX2_isA (.code yX2_isA cX2_isA 2 (some .boolean) :: tb) ({ frames := 0, cells := 0, slots := 0, locals := 0 } : Room) [.ref (ad j0), .int x1] M (b2i rr) M := by
  intro sz
  refine CX.of (by decide +kernel) (fun p e s m args below meth c H ls C hP hD hS hl => ?_) (Nat.le_of_ble_eq_true rfl)
  exact w_X2_isA_0 C hk_j0 hP hD hS hl h
theorem ev_X2_isA : yX2_isA.cls = RX2 ∧ yX2_isA.cls ≠ "java/lang/invoke/MethodHandle" ∧ yX2_isA.cls ≠ "java/lang/invoke/VarHandle" ∧ (parseMethodDescriptor yX2_isA.desc).map (fun d => d.parameters.length) = some 1 := by decide +kernel
def b_X2_named_0 (M : Mem) (j0 : Nat) (x1 : Int32) : Option (Int32) := (if x1 = 0 then some (FI M j0 4) else (if x1 = 1 then some ((FI M j0 2) - (FI M j0 2) / (8 : Int32) * (8 : Int32)) else (if x1 = 2 then some ((FI M j0 2) / (8 : Int32)) else (if x1 = 3 then some (FI M j0 5) else (if x1 = 4 then some (FI M j0 6) else some (FI M j0 1))))))
set_option maxHeartbeats 4000000 in
set_option maxRecDepth 100000 in
theorem w_X2_named_0 (C : CX p s m args meth c cX2_named 2 (some .int) RX2 D cy ad zz 0 82 A) {M : Mem} {j0 : Nat} (hk_j0 : kd j0 = 2) {x1 : Int32} {rr : Int32} {H : Heap} {locs : List Loc} (hP : va_P D vwCl (pool cy ad 0 82 M) H) (hD : va_D A (pool cy ad 0 82 M)) (hS : va_S A s.heap H locs) {ls : Array Slot} (hl : lv_has ls 2 [(0, .ref (ad j0)), (1, .int x1)]) (h : b_X2_named_0 M j0 x1 = some rr) : W p l e ({ frames := 0, cells := 0, slots := 0, locals := 0 } : Room) s m args below meth c H locs 0 0 (MQ below (va_Qi (fun (x : Int32) (_ : Unit) => x = rr) (fun _ t => PA D cy ad 0 82 A M t) A) args s 0 0 A) (F0 m 0 ls []) := by
  obtain ⟨hx, hb, hml, hown, hts, hr, hlk, hK, hN, hA, hX⟩ := id C
  unfold b_X2_named_0 at h
  refine lv_iload_n hx hb dX2_named_0 rfl (lv_at hl 1 rfl) ?_
  by_cases c1_0 : x1 = 0
  · replace h := it_t c1_0 h
    refine lv_tableIn (off := 35) (tgt := 36) hx hb dX2_named_1 (by rw [c1_0]; decide) (by rw [c1_0]; decide) (by rw [c1_0]; rfl) (by decide) ?_
    refine lv_aload_n hx hb dX2_named_36 rfl (lv_at hl 0 rfl) ?_
    refine gf_2_4 C hP (p_2 hk_j0) hk_j0 wd_109 dX2_named_37 ?_
    exact rt_i (r := (FI M j0 4)) C hP hD hS dX2_named_40 ⟨Option.some.inj h, rfl⟩
  · replace h := it_f c1_0 h
    by_cases c1_1 : x1 = 1
    · replace h := it_t c1_1 h
      refine lv_tableIn (off := 40) (tgt := 41) hx hb dX2_named_1 (by rw [c1_1]; decide) (by rw [c1_1]; decide) (by rw [c1_1]; rfl) (by decide) ?_
      refine lv_aload_n hx hb dX2_named_41 rfl (lv_at hl 0 rfl) ?_
      refine gf_2_2 C hP (p_2 hk_j0) hk_j0 wd_104 dX2_named_42 ?_
      refine lv_bipush (v := 8) hx hb dX2_named_45 (by decide) ?_
      refine lv_irem hx hb dX2_named_47 (by decide) ?_
      exact rt_i (r := ((FI M j0 2) - (FI M j0 2) / (8 : Int32) * (8 : Int32))) C hP hD hS dX2_named_48 ⟨Option.some.inj h, rfl⟩
    · replace h := it_f c1_1 h
      by_cases c1_2 : x1 = 2
      · replace h := it_t c1_2 h
        refine lv_tableIn (off := 48) (tgt := 49) hx hb dX2_named_1 (by rw [c1_2]; decide) (by rw [c1_2]; decide) (by rw [c1_2]; rfl) (by decide) ?_
        refine lv_aload_n hx hb dX2_named_49 rfl (lv_at hl 0 rfl) ?_
        refine gf_2_2 C hP (p_2 hk_j0) hk_j0 wd_104 dX2_named_50 ?_
        refine lv_bipush (v := 8) hx hb dX2_named_53 (by decide) ?_
        refine lv_idiv hx hb dX2_named_55 (by decide) ?_
        exact rt_i (r := ((FI M j0 2) / (8 : Int32))) C hP hD hS dX2_named_56 ⟨Option.some.inj h, rfl⟩
      · replace h := it_f c1_2 h
        by_cases c1_3 : x1 = 3
        · replace h := it_t c1_3 h
          refine lv_tableIn (off := 56) (tgt := 57) hx hb dX2_named_1 (by rw [c1_3]; decide) (by rw [c1_3]; decide) (by rw [c1_3]; rfl) (by decide) ?_
          refine lv_aload_n hx hb dX2_named_57 rfl (lv_at hl 0 rfl) ?_
          refine gf_2_5 C hP (p_2 hk_j0) hk_j0 wd_111 dX2_named_58 ?_
          exact rt_i (r := (FI M j0 5)) C hP hD hS dX2_named_61 ⟨Option.some.inj h, rfl⟩
        · replace h := it_f c1_3 h
          by_cases c1_4 : x1 = 4
          · replace h := it_t c1_4 h
            refine lv_tableIn (off := 61) (tgt := 62) hx hb dX2_named_1 (by rw [c1_4]; decide) (by rw [c1_4]; decide) (by rw [c1_4]; rfl) (by decide) ?_
            refine lv_aload_n hx hb dX2_named_62 rfl (lv_at hl 0 rfl) ?_
            refine gf_2_6 C hP (p_2 hk_j0) hk_j0 wd_113 dX2_named_63 ?_
            exact rt_i (r := (FI M j0 6)) C hP hD hS dX2_named_66 ⟨Option.some.inj h, rfl⟩
          · replace h := it_f c1_4 h
            have e1_0 : x1.toInt ≠ 0 := fun q => c1_0 (Int32.toInt_inj.mp (q.trans (by decide)))
            have e1_1 : x1.toInt ≠ 1 := fun q => c1_1 (Int32.toInt_inj.mp (q.trans (by decide)))
            have e1_2 : x1.toInt ≠ 2 := fun q => c1_2 (Int32.toInt_inj.mp (q.trans (by decide)))
            have e1_3 : x1.toInt ≠ 3 := fun q => c1_3 (Int32.toInt_inj.mp (q.trans (by decide)))
            have e1_4 : x1.toInt ≠ 4 := fun q => c1_4 (Int32.toInt_inj.mp (q.trans (by decide)))
            refine lv_tableOut (tgt := 67) hx hb dX2_named_1 (by omega) (by decide) ?_
            refine lv_aload_n hx hb dX2_named_67 rfl (lv_at hl 0 rfl) ?_
            refine gf_2_1 C hP (p_2 hk_j0) hk_j0 wd_102 dX2_named_68 ?_
            exact rt_i (r := (FI M j0 1)) C hP hD hS dX2_named_71 ⟨Option.some.inj h, rfl⟩
def f_X2_named (j0 : Nat) (x1 : Int32) (M : Mem) : Option (Int32) := b_X2_named_0 M j0 x1
theorem c_X2_named {l : Launch} {D : va_G} {cy : Nat → ClassId} {ad : Nat → Nat} {zz : (Nat → Nat) × (Nat → Nat)} {j0 : Nat} (hk_j0 : kd j0 = 2) {x1 : Int32} {M : Mem} {rr : Int32} (h : f_X2_named j0 x1 M = some rr) : CTi l D cy ad zz 0 82 yX2_named (.code yX2_named cX2_named 2 (some .int) :: tb) ({ frames := 0, cells := 0, slots := 0, locals := 0 } : Room) [.ref (ad j0), .int x1] M rr M := by
  intro sz
  refine CX.of (by decide +kernel) (fun p e s m args below meth c H ls C hP hD hS hl => ?_) (Nat.le_of_ble_eq_true rfl)
  exact w_X2_named_0 C hk_j0 hP hD hS hl h
theorem ev_X2_named : yX2_named.cls = RX2 ∧ yX2_named.cls ≠ "java/lang/invoke/MethodHandle" ∧ yX2_named.cls ≠ "java/lang/invoke/VarHandle" ∧ (parseMethodDescriptor yX2_named.desc).map (fun d => d.parameters.length) = some 1 := by decide +kernel
def b_X3_ofOne_0 (M : Mem) (x0 : Int32) (x1 : Int32) : Option (Int32) := (if x0 = (2 : Int32) then some (-x1) else (if x1 = 0 then some (1 : Int32) else some (0 : Int32)))
set_option maxHeartbeats 4000000 in
set_option maxRecDepth 100000 in
theorem w_X3_ofOne_0 (C : CX p s m args meth c cX3_ofOne 2 (some .int) RX3 D cy ad zz 0 82 A) {M : Mem} {x0 : Int32} {x1 : Int32} {rr : Int32} {H : Heap} {locs : List Loc} (hP : va_P D vwCl (pool cy ad 0 82 M) H) (hD : va_D A (pool cy ad 0 82 M)) (hS : va_S A s.heap H locs) {ls : Array Slot} (hl : lv_has ls 2 [(0, .int x0), (1, .int x1)]) (h : b_X3_ofOne_0 M x0 x1 = some rr) : W p l e ({ frames := 0, cells := 0, slots := 0, locals := 0 } : Room) s m args below meth c H locs 0 0 (MQ below (va_Qi (fun (x : Int32) (_ : Unit) => x = rr) (fun _ t => PA D cy ad 0 82 A M t) A) args s 0 0 A) (F0 m 0 ls []) := by
  obtain ⟨hx, hb, hml, hown, hts, hr, hlk, hK, hN, hA, hX⟩ := id C
  unfold b_X3_ofOne_0 at h
  refine lv_iload_n hx hb dX3_ofOne_0 rfl (lv_at hl 0 rfl) ?_
  refine lv_iconst (v := 2) hx hb dX3_ofOne_1 (by decide) ?_
  refine lv_icmp_ne (tgt := 8) hx hb dX3_ofOne_2 (by decide) (fun c2 => ?_) (fun c2 => ?_)
  · replace h := it_f c2 h
    refine lv_iload_n hx hb dX3_ofOne_8 rfl (lv_at hl 1 rfl) ?_
    refine lv_if_ne (tgt := 16) hx hb dX3_ofOne_9 (by decide) (fun c9 => ?_) (fun c9 => ?_)
    · replace h := it_f c9 h
      refine lv_iconst (v := 0) hx hb dX3_ofOne_16 (by decide) ?_
      exact rt_i (r := (0 : Int32)) C hP hD hS dX3_ofOne_17 ⟨Option.some.inj h, rfl⟩
    · replace h := it_t c9 h
      refine lv_iconst (v := 1) hx hb dX3_ofOne_12 (by decide) ?_
      refine lv_goto (tgt := 17) hx hb dX3_ofOne_13 (by decide) ?_
      exact rt_i (r := (1 : Int32)) C hP hD hS dX3_ofOne_17 ⟨Option.some.inj h, rfl⟩
  · replace h := it_t c2 h
    refine lv_iload_n hx hb dX3_ofOne_5 rfl (lv_at hl 1 rfl) ?_
    refine lv_ineg hx hb dX3_ofOne_6 ?_
    exact rt_i (r := (-x1)) C hP hD hS dX3_ofOne_7 ⟨Option.some.inj h, rfl⟩
def f_X3_ofOne (x0 : Int32) (x1 : Int32) (M : Mem) : Option (Int32) := b_X3_ofOne_0 M x0 x1
theorem c_X3_ofOne {l : Launch} {D : va_G} {cy : Nat → ClassId} {ad : Nat → Nat} {zz : (Nat → Nat) × (Nat → Nat)} {x0 : Int32} {x1 : Int32} {M : Mem} {rr : Int32} (h : f_X3_ofOne x0 x1 M = some rr) : CTi l D cy ad zz 0 82 yX3_ofOne (.code yX3_ofOne cX3_ofOne 2 (some .int) :: tb) ({ frames := 0, cells := 0, slots := 0, locals := 0 } : Room) [.int x0, .int x1] M rr M := by
  intro sz
  refine CX.of (by decide +kernel) (fun p e s m args below meth c H ls C hP hD hS hl => ?_) (Nat.le_of_ble_eq_true rfl)
  exact w_X3_ofOne_0 C hP hD hS hl h
theorem es_X3_ofOne : yX3_ofOne.cls ≠ "java/lang/invoke/MethodHandle" ∧ yX3_ofOne.cls ≠ "java/lang/invoke/VarHandle" ∧ (parseMethodDescriptor yX3_ofOne.desc).map (fun d => d.parameters.length) = some 2 := by decide +kernel
def b_X3_ofTwo_0 (M : Mem) (x0 : Int32) (x1 : Int32) (x2 : Int32) : Option (Int32) := (if x0 = 4 then some (x1 * x2) else (if x0 = 5 then some (x1 + x2) else (if x0 = 6 then some (x1 - x2) else (if x0 = 7 then (if x2 ≤ x1 then some (0 : Int32) else some (1 : Int32)) else (if x0 = 8 then (if x1 = x2 then some (1 : Int32) else some (0 : Int32)) else (if x0 = 9 then (if x1 = 0 then some (0 : Int32) else (if x2 = 0 then some (0 : Int32) else some (1 : Int32))) else (if x1 = 0 then (if x2 = 0 then some (0 : Int32) else some (1 : Int32)) else some (1 : Int32))))))))
set_option maxHeartbeats 4000000 in
set_option maxRecDepth 100000 in
theorem w_X3_ofTwo_0 (C : CX p s m args meth c cX3_ofTwo 3 (some .int) RX3 D cy ad zz 0 82 A) {M : Mem} {x0 : Int32} {x1 : Int32} {x2 : Int32} {rr : Int32} {H : Heap} {locs : List Loc} (hP : va_P D vwCl (pool cy ad 0 82 M) H) (hD : va_D A (pool cy ad 0 82 M)) (hS : va_S A s.heap H locs) {ls : Array Slot} (hl : lv_has ls 3 [(0, .int x0), (1, .int x1), (2, .int x2)]) (h : b_X3_ofTwo_0 M x0 x1 x2 = some rr) : W p l e ({ frames := 0, cells := 0, slots := 0, locals := 0 } : Room) s m args below meth c H locs 0 0 (MQ below (va_Qi (fun (x : Int32) (_ : Unit) => x = rr) (fun _ t => PA D cy ad 0 82 A M t) A) args s 0 0 A) (F0 m 0 ls []) := by
  obtain ⟨hx, hb, hml, hown, hts, hr, hlk, hK, hN, hA, hX⟩ := id C
  unfold b_X3_ofTwo_0 at h
  refine lv_iload_n hx hb dX3_ofTwo_0 rfl (lv_at hl 0 rfl) ?_
  by_cases c1_4 : x0 = 4
  · replace h := it_t c1_4 h
    refine lv_tableIn (off := 39) (tgt := 40) hx hb dX3_ofTwo_1 (by rw [c1_4]; decide) (by rw [c1_4]; decide) (by rw [c1_4]; rfl) (by decide) ?_
    refine lv_iload_n hx hb dX3_ofTwo_40 rfl (lv_at hl 1 rfl) ?_
    refine lv_iload_n hx hb dX3_ofTwo_41 rfl (lv_at hl 2 rfl) ?_
    refine lv_imul hx hb dX3_ofTwo_42 ?_
    exact rt_i (r := (x1 * x2)) C hP hD hS dX3_ofTwo_43 ⟨Option.some.inj h, rfl⟩
  · replace h := it_f c1_4 h
    by_cases c1_5 : x0 = 5
    · replace h := it_t c1_5 h
      refine lv_tableIn (off := 43) (tgt := 44) hx hb dX3_ofTwo_1 (by rw [c1_5]; decide) (by rw [c1_5]; decide) (by rw [c1_5]; rfl) (by decide) ?_
      refine lv_iload_n hx hb dX3_ofTwo_44 rfl (lv_at hl 1 rfl) ?_
      refine lv_iload_n hx hb dX3_ofTwo_45 rfl (lv_at hl 2 rfl) ?_
      refine lv_iadd hx hb dX3_ofTwo_46 ?_
      exact rt_i (r := (x1 + x2)) C hP hD hS dX3_ofTwo_47 ⟨Option.some.inj h, rfl⟩
    · replace h := it_f c1_5 h
      by_cases c1_6 : x0 = 6
      · replace h := it_t c1_6 h
        refine lv_tableIn (off := 47) (tgt := 48) hx hb dX3_ofTwo_1 (by rw [c1_6]; decide) (by rw [c1_6]; decide) (by rw [c1_6]; rfl) (by decide) ?_
        refine lv_iload_n hx hb dX3_ofTwo_48 rfl (lv_at hl 1 rfl) ?_
        refine lv_iload_n hx hb dX3_ofTwo_49 rfl (lv_at hl 2 rfl) ?_
        refine lv_isub hx hb dX3_ofTwo_50 ?_
        exact rt_i (r := (x1 - x2)) C hP hD hS dX3_ofTwo_51 ⟨Option.some.inj h, rfl⟩
      · replace h := it_f c1_6 h
        by_cases c1_7 : x0 = 7
        · replace h := it_t c1_7 h
          refine lv_tableIn (off := 51) (tgt := 52) hx hb dX3_ofTwo_1 (by rw [c1_7]; decide) (by rw [c1_7]; decide) (by rw [c1_7]; rfl) (by decide) ?_
          refine lv_iload_n hx hb dX3_ofTwo_52 rfl (lv_at hl 1 rfl) ?_
          refine lv_iload_n hx hb dX3_ofTwo_53 rfl (lv_at hl 2 rfl) ?_
          refine lv_icmp_ge (tgt := 61) hx hb dX3_ofTwo_54 (by decide) (fun c54 => ?_) (fun c54 => ?_)
          · replace h := it_t c54 h
            refine lv_iconst (v := 0) hx hb dX3_ofTwo_61 (by decide) ?_
            exact rt_i (r := (0 : Int32)) C hP hD hS dX3_ofTwo_62 ⟨Option.some.inj h, rfl⟩
          · replace h := it_f c54 h
            refine lv_iconst (v := 1) hx hb dX3_ofTwo_57 (by decide) ?_
            refine lv_goto (tgt := 62) hx hb dX3_ofTwo_58 (by decide) ?_
            exact rt_i (r := (1 : Int32)) C hP hD hS dX3_ofTwo_62 ⟨Option.some.inj h, rfl⟩
        · replace h := it_f c1_7 h
          by_cases c1_8 : x0 = 8
          · replace h := it_t c1_8 h
            refine lv_tableIn (off := 62) (tgt := 63) hx hb dX3_ofTwo_1 (by rw [c1_8]; decide) (by rw [c1_8]; decide) (by rw [c1_8]; rfl) (by decide) ?_
            refine lv_iload_n hx hb dX3_ofTwo_63 rfl (lv_at hl 1 rfl) ?_
            refine lv_iload_n hx hb dX3_ofTwo_64 rfl (lv_at hl 2 rfl) ?_
            refine lv_icmp_ne (tgt := 72) hx hb dX3_ofTwo_65 (by decide) (fun c65 => ?_) (fun c65 => ?_)
            · replace h := it_f c65 h
              refine lv_iconst (v := 0) hx hb dX3_ofTwo_72 (by decide) ?_
              exact rt_i (r := (0 : Int32)) C hP hD hS dX3_ofTwo_73 ⟨Option.some.inj h, rfl⟩
            · replace h := it_t c65 h
              refine lv_iconst (v := 1) hx hb dX3_ofTwo_68 (by decide) ?_
              refine lv_goto (tgt := 73) hx hb dX3_ofTwo_69 (by decide) ?_
              exact rt_i (r := (1 : Int32)) C hP hD hS dX3_ofTwo_73 ⟨Option.some.inj h, rfl⟩
          · replace h := it_f c1_8 h
            by_cases c1_9 : x0 = 9
            · replace h := it_t c1_9 h
              refine lv_tableIn (off := 73) (tgt := 74) hx hb dX3_ofTwo_1 (by rw [c1_9]; decide) (by rw [c1_9]; decide) (by rw [c1_9]; rfl) (by decide) ?_
              refine lv_iload_n hx hb dX3_ofTwo_74 rfl (lv_at hl 1 rfl) ?_
              refine lv_if_eq (tgt := 86) hx hb dX3_ofTwo_75 (by decide) (fun c75 => ?_) (fun c75 => ?_)
              · replace h := it_t c75 h
                refine lv_iconst (v := 0) hx hb dX3_ofTwo_86 (by decide) ?_
                exact rt_i (r := (0 : Int32)) C hP hD hS dX3_ofTwo_87 ⟨Option.some.inj h, rfl⟩
              · replace h := it_f c75 h
                refine lv_iload_n hx hb dX3_ofTwo_78 rfl (lv_at hl 2 rfl) ?_
                refine lv_if_eq (tgt := 86) hx hb dX3_ofTwo_79 (by decide) (fun c79 => ?_) (fun c79 => ?_)
                · replace h := it_t c79 h
                  refine lv_iconst (v := 0) hx hb dX3_ofTwo_86 (by decide) ?_
                  exact rt_i (r := (0 : Int32)) C hP hD hS dX3_ofTwo_87 ⟨Option.some.inj h, rfl⟩
                · replace h := it_f c79 h
                  refine lv_iconst (v := 1) hx hb dX3_ofTwo_82 (by decide) ?_
                  refine lv_goto (tgt := 87) hx hb dX3_ofTwo_83 (by decide) ?_
                  exact rt_i (r := (1 : Int32)) C hP hD hS dX3_ofTwo_87 ⟨Option.some.inj h, rfl⟩
            · replace h := it_f c1_9 h
              have e1_4 : x0.toInt ≠ 4 := fun q => c1_4 (Int32.toInt_inj.mp (q.trans (by decide)))
              have e1_5 : x0.toInt ≠ 5 := fun q => c1_5 (Int32.toInt_inj.mp (q.trans (by decide)))
              have e1_6 : x0.toInt ≠ 6 := fun q => c1_6 (Int32.toInt_inj.mp (q.trans (by decide)))
              have e1_7 : x0.toInt ≠ 7 := fun q => c1_7 (Int32.toInt_inj.mp (q.trans (by decide)))
              have e1_8 : x0.toInt ≠ 8 := fun q => c1_8 (Int32.toInt_inj.mp (q.trans (by decide)))
              have e1_9 : x0.toInt ≠ 9 := fun q => c1_9 (Int32.toInt_inj.mp (q.trans (by decide)))
              refine lv_tableOut (tgt := 88) hx hb dX3_ofTwo_1 (by omega) (by decide) ?_
              refine lv_iload_n hx hb dX3_ofTwo_88 rfl (lv_at hl 1 rfl) ?_
              refine lv_if_ne (tgt := 96) hx hb dX3_ofTwo_89 (by decide) (fun c89 => ?_) (fun c89 => ?_)
              · replace h := it_f c89 h
                refine lv_iconst (v := 1) hx hb dX3_ofTwo_96 (by decide) ?_
                refine lv_goto (tgt := 101) hx hb dX3_ofTwo_97 (by decide) ?_
                exact rt_i (r := (1 : Int32)) C hP hD hS dX3_ofTwo_101 ⟨Option.some.inj h, rfl⟩
              · replace h := it_t c89 h
                refine lv_iload_n hx hb dX3_ofTwo_92 rfl (lv_at hl 2 rfl) ?_
                refine lv_if_eq (tgt := 100) hx hb dX3_ofTwo_93 (by decide) (fun c93 => ?_) (fun c93 => ?_)
                · replace h := it_t c93 h
                  refine lv_iconst (v := 0) hx hb dX3_ofTwo_100 (by decide) ?_
                  exact rt_i (r := (0 : Int32)) C hP hD hS dX3_ofTwo_101 ⟨Option.some.inj h, rfl⟩
                · replace h := it_f c93 h
                  refine lv_iconst (v := 1) hx hb dX3_ofTwo_96 (by decide) ?_
                  refine lv_goto (tgt := 101) hx hb dX3_ofTwo_97 (by decide) ?_
                  exact rt_i (r := (1 : Int32)) C hP hD hS dX3_ofTwo_101 ⟨Option.some.inj h, rfl⟩
def f_X3_ofTwo (x0 : Int32) (x1 : Int32) (x2 : Int32) (M : Mem) : Option (Int32) := b_X3_ofTwo_0 M x0 x1 x2
theorem c_X3_ofTwo {l : Launch} {D : va_G} {cy : Nat → ClassId} {ad : Nat → Nat} {zz : (Nat → Nat) × (Nat → Nat)} {x0 : Int32} {x1 : Int32} {x2 : Int32} {M : Mem} {rr : Int32} (h : f_X3_ofTwo x0 x1 x2 M = some rr) : CTi l D cy ad zz 0 82 yX3_ofTwo (.code yX3_ofTwo cX3_ofTwo 3 (some .int) :: tb) ({ frames := 0, cells := 0, slots := 0, locals := 0 } : Room) [.int x0, .int x1, .int x2] M rr M := by
  intro sz
  refine CX.of (by decide +kernel) (fun p e s m args below meth c H ls C hP hD hS hl => ?_) (Nat.le_of_ble_eq_true rfl)
  exact w_X3_ofTwo_0 C hP hD hS hl h
theorem es_X3_ofTwo : yX3_ofTwo.cls ≠ "java/lang/invoke/MethodHandle" ∧ yX3_ofTwo.cls ≠ "java/lang/invoke/VarHandle" ∧ (parseMethodDescriptor yX3_ofTwo.desc).map (fun d => d.parameters.length) = some 3 := by decide +kernel
def b_X3_within_23 (M : Mem) (x0 : Int32) (x1 : Int32) (x2 : Int32) (t0 : Int32) : Option (Int32) := some (if x2 < (if x1 < t0 then x1 else t0) then (if x1 < t0 then x1 else t0) else x2)
set_option maxHeartbeats 4000000 in
set_option maxRecDepth 100000 in
theorem w_X3_within_23 (C : CX p s m args meth c cX3_within 4 (some .int) RX3 D cy ad zz 0 82 A) {M : Mem} {x0 : Int32} {x1 : Int32} {rr : Int32} {x2 : Int32} {t0 : Int32} {H : Heap} {locs : List Loc} (hP : va_P D vwCl (pool cy ad 0 82 M) H) (hD : va_D A (pool cy ad 0 82 M)) (hS : va_S A s.heap H locs) {ls : Array Slot} (hl : lv_has ls 4 [(1, .int x1), (2, .int x2)]) (h : b_X3_within_23 M x0 x1 x2 t0 = some rr) : W p l e ({ frames := 1, cells := 0, slots := 0, locals := 21 } : Room) s m args below meth c H locs 0 0 (MQ below (va_Qi (fun (x : Int32) (_ : Unit) => x = rr) (fun _ t => PA D cy ad 0 82 A M t) A) args s 0 0 A) (F0 m 23 ls [.int t0]) := by
  obtain ⟨hx, hb, hml, hown, hts, hr, hlk, hK, hN, hA, hX⟩ := id C
  unfold b_X3_within_23 at h
  refine lv_istore_n (lv' := [(3, .int t0), (1, .int x1), (2, .int x2)]) hx hb dX3_within_23 rfl hl (by decide) rfl (fun ls hl => ?_)
  refine lv_iload_n hx hb dX3_within_24 rfl (lv_at hl 2 rfl) ?_
  refine lv_iload_n hx hb dX3_within_25 rfl (lv_at hl 0 rfl) ?_
  refine lv_iload_n hx hb dX3_within_26 rfl (lv_at hl 1 rfl) ?_
  refine va_mmin hx hb (hml.trans hl.1.symm) hown (hts _ wd_471) (hts _ wd_222) (hts _ wd_70) (hts _ wd_223) (Nat.le_of_ble_eq_true rfl) (Nat.le_of_ble_eq_true rfl) (Nat.zero_le _) (Nat.zero_le _) dX3_within_27 ?_
  refine va_mmax hx hb (hml.trans hl.1.symm) hown (hts _ wd_472) (hts _ wd_473) (hts _ wd_70) (hts _ wd_474) (Nat.le_of_ble_eq_true rfl) (Nat.le_of_ble_eq_true rfl) (Nat.zero_le _) (Nat.zero_le _) dX3_within_30 ?_
  exact rt_i (r := (if x2 < (if x1 < t0 then x1 else t0) then (if x1 < t0 then x1 else t0) else x2)) C hP hD hS dX3_within_33 ⟨Option.some.inj h, rfl⟩
def b_X3_within_11 (M : Mem) (x0 : Int32) (x1 : Int32) (t0 : Int32) : Option (Int32) := (if x0 = 0 then b_X3_within_23 M x0 x1 t0 (20 : Int32) else b_X3_within_23 M x0 x1 t0 (99 : Int32))
set_option maxHeartbeats 4000000 in
set_option maxRecDepth 100000 in
theorem w_X3_within_11 (C : CX p s m args meth c cX3_within 4 (some .int) RX3 D cy ad zz 0 82 A) {M : Mem} {x0 : Int32} {x1 : Int32} {rr : Int32} {t0 : Int32} {H : Heap} {locs : List Loc} (hP : va_P D vwCl (pool cy ad 0 82 M) H) (hD : va_D A (pool cy ad 0 82 M)) (hS : va_S A s.heap H locs) {ls : Array Slot} (hl : lv_has ls 4 [(0, .int x0), (1, .int x1)]) (h : b_X3_within_11 M x0 x1 t0 = some rr) : W p l e ({ frames := 1, cells := 0, slots := 0, locals := 21 } : Room) s m args below meth c H locs 0 0 (MQ below (va_Qi (fun (x : Int32) (_ : Unit) => x = rr) (fun _ t => PA D cy ad 0 82 A M t) A) args s 0 0 A) (F0 m 11 ls [.int t0]) := by
  obtain ⟨hx, hb, hml, hown, hts, hr, hlk, hK, hN, hA, hX⟩ := id C
  unfold b_X3_within_11 at h
  refine lv_istore_n (lv' := [(2, .int t0), (0, .int x0), (1, .int x1)]) hx hb dX3_within_11 rfl hl (by decide) rfl (fun ls hl => ?_)
  refine lv_iload_n hx hb dX3_within_12 rfl (lv_at hl 1 rfl) ?_
  refine lv_if_ne (tgt := 21) hx hb dX3_within_13 (by decide) (fun c13 => ?_) (fun c13 => ?_)
  · replace h := it_f c13 h
    refine lv_bipush (v := 99) hx hb dX3_within_21 (by decide) ?_
    exact w_X3_within_23 C hP hD hS (lv_sub hl [2, 0] rfl) h
  · replace h := it_t c13 h
    refine lv_bipush (v := 20) hx hb dX3_within_16 (by decide) ?_
    refine lv_goto (tgt := 23) hx hb dX3_within_18 (by decide) ?_
    exact w_X3_within_23 C hP hD hS (lv_sub hl [2, 0] rfl) h
def b_X3_within_0 (M : Mem) (x0 : Int32) (x1 : Int32) : Option (Int32) := (if x0 = (1 : Int32) then b_X3_within_11 M x0 x1 (-99 : Int32) else b_X3_within_11 M x0 x1 (0 : Int32))
set_option maxHeartbeats 4000000 in
set_option maxRecDepth 100000 in
theorem w_X3_within_0 (C : CX p s m args meth c cX3_within 4 (some .int) RX3 D cy ad zz 0 82 A) {M : Mem} {x0 : Int32} {x1 : Int32} {rr : Int32} {H : Heap} {locs : List Loc} (hP : va_P D vwCl (pool cy ad 0 82 M) H) (hD : va_D A (pool cy ad 0 82 M)) (hS : va_S A s.heap H locs) {ls : Array Slot} (hl : lv_has ls 4 [(0, .int x0), (1, .int x1)]) (h : b_X3_within_0 M x0 x1 = some rr) : W p l e ({ frames := 1, cells := 0, slots := 0, locals := 21 } : Room) s m args below meth c H locs 0 0 (MQ below (va_Qi (fun (x : Int32) (_ : Unit) => x = rr) (fun _ t => PA D cy ad 0 82 A M t) A) args s 0 0 A) (F0 m 0 ls []) := by
  obtain ⟨hx, hb, hml, hown, hts, hr, hlk, hK, hN, hA, hX⟩ := id C
  unfold b_X3_within_0 at h
  refine lv_iload_n hx hb dX3_within_0 rfl (lv_at hl 0 rfl) ?_
  refine lv_iconst (v := 1) hx hb dX3_within_1 (by decide) ?_
  refine lv_icmp_ne (tgt := 10) hx hb dX3_within_2 (by decide) (fun c2 => ?_) (fun c2 => ?_)
  · replace h := it_f c2 h
    refine lv_iconst (v := 0) hx hb dX3_within_10 (by decide) ?_
    exact w_X3_within_11 C hP hD hS hl h
  · replace h := it_t c2 h
    refine lv_bipush (v := -99) hx hb dX3_within_5 (by decide) ?_
    refine lv_goto (tgt := 11) hx hb dX3_within_7 (by decide) ?_
    exact w_X3_within_11 C hP hD hS hl h
def f_X3_within (x0 : Int32) (x1 : Int32) (M : Mem) : Option (Int32) := b_X3_within_0 M x0 x1
theorem c_X3_within {l : Launch} {D : va_G} {cy : Nat → ClassId} {ad : Nat → Nat} {zz : (Nat → Nat) × (Nat → Nat)} {x0 : Int32} {x1 : Int32} {M : Mem} {rr : Int32} (h : f_X3_within x0 x1 M = some rr) : CTi l D cy ad zz 0 82 yX3_within (.code yX3_within cX3_within 4 (some .int) :: tb) ({ frames := 1, cells := 0, slots := 0, locals := 21 } : Room) [.int x0, .int x1] M rr M := by
  intro sz
  refine CX.of (by decide +kernel) (fun p e s m args below meth c H ls C hP hD hS hl => ?_) (Nat.le_of_ble_eq_true rfl)
  exact w_X3_within_0 C hP hD hS hl h
theorem es_X3_within : yX3_within.cls ≠ "java/lang/invoke/MethodHandle" ∧ yX3_within.cls ≠ "java/lang/invoke/VarHandle" ∧ (parseMethodDescriptor yX3_within.desc).map (fun d => d.parameters.length) = some 2 := by decide +kernel
end
