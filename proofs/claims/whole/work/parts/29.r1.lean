/-- what the reader's calls of itself give: the reading of an E, of a NOT, of a ONE, a level further in -/
def RKok (l : Launch) (D : va_G) (cy : Nat → ClassId) (ad : Nat → Nat) (zz : (Nat → Nat) × (Nat → Nat)) (Fr Lr : Nat) (Rk : Nat → Int32 → Mem → Option (Bool × Mem)) : Prop :=
  (∀ (x : Int32) (M : Mem) (r : Bool) (M' : Mem), Rk 0 x M = some (r, M') → CTi l D cy ad zz 0 82 yX0_readEither (.code yX0_readEither cX0_readEither 3 (some .boolean) :: tb) ({ frames := Fr + 7, cells := 0, slots := 0, locals := Lr + 168 } : Room) [.ref (ad 72), .int x] M (b2i r) M') ∧
  (∀ (x : Int32) (M : Mem) (r : Bool) (M' : Mem), Rk 1 x M = some (r, M') → CTi l D cy ad zz 0 82 yX0_readNot (.code yX0_readNot cX0_readNot 2 (some .boolean) :: tb) ({ frames := Fr + 5, cells := 0, slots := 0, locals := Lr + 120 } : Room) [.ref (ad 72), .int x] M (b2i r) M') ∧
  ∀ (x : Int32) (M : Mem) (r : Bool) (M' : Mem), Rk 2 x M = some (r, M') → CTi l D cy ad zz 0 82 yX0_readOne (.code yX0_readOne cX0_readOne 2 (some .boolean) :: tb) ({ frames := Fr + 1, cells := 0, slots := 0, locals := Lr + 24 } : Room) [.ref (ad 72), .int x] M (b2i r) M'
theorem ev_X0_readOne : yX0_readOne.cls = RX0 ∧ yX0_readOne.cls ≠ "java/lang/invoke/MethodHandle" ∧ yX0_readOne.cls ≠ "java/lang/invoke/VarHandle" ∧ (parseMethodDescriptor yX0_readOne.desc).map (fun d => d.parameters.length) = some 1 := by decide +kernel
theorem ev_X0_readTerm : yX0_readTerm.cls = RX0 ∧ yX0_readTerm.cls ≠ "java/lang/invoke/MethodHandle" ∧ yX0_readTerm.cls ≠ "java/lang/invoke/VarHandle" ∧ (parseMethodDescriptor yX0_readTerm.desc).map (fun d => d.parameters.length) = some 1 := by decide +kernel
theorem ev_X0_readSum : yX0_readSum.cls = RX0 ∧ yX0_readSum.cls ≠ "java/lang/invoke/MethodHandle" ∧ yX0_readSum.cls ≠ "java/lang/invoke/VarHandle" ∧ (parseMethodDescriptor yX0_readSum.desc).map (fun d => d.parameters.length) = some 1 := by decide +kernel
theorem ev_X0_readCompared : yX0_readCompared.cls = RX0 ∧ yX0_readCompared.cls ≠ "java/lang/invoke/MethodHandle" ∧ yX0_readCompared.cls ≠ "java/lang/invoke/VarHandle" ∧ (parseMethodDescriptor yX0_readCompared.desc).map (fun d => d.parameters.length) = some 1 := by decide +kernel
theorem ev_X0_readNot : yX0_readNot.cls = RX0 ∧ yX0_readNot.cls ≠ "java/lang/invoke/MethodHandle" ∧ yX0_readNot.cls ≠ "java/lang/invoke/VarHandle" ∧ (parseMethodDescriptor yX0_readNot.desc).map (fun d => d.parameters.length) = some 1 := by decide +kernel
theorem ev_X0_readBoth : yX0_readBoth.cls = RX0 ∧ yX0_readBoth.cls ≠ "java/lang/invoke/MethodHandle" ∧ yX0_readBoth.cls ≠ "java/lang/invoke/VarHandle" ∧ (parseMethodDescriptor yX0_readBoth.desc).map (fun d => d.parameters.length) = some 1 := by decide +kernel
theorem ev_X0_readEither : yX0_readEither.cls = RX0 ∧ yX0_readEither.cls ≠ "java/lang/invoke/MethodHandle" ∧ yX0_readEither.cls ≠ "java/lang/invoke/VarHandle" ∧ (parseMethodDescriptor yX0_readEither.desc).map (fun d => d.parameters.length) = some 1 := by decide +kernel
section
variable {p : Program} {l : Launch} {e : Env} {s : State} {m : MethodId} {args : Array Value} {below : List Frame} {meth : Method} {c : Code} {D : va_G} {cy : Nat → ClassId} {ad : Nat → Nat} {zz : (Nat → Nat) × (Nat → Nat)} {A : Nat → Prop}
def b_X0_readOne_39 (N : Nat) (Rk : Nat → Int32 → Mem → Option (Bool × Mem)) (x1 : Int32) (v0 : Nat) (t1 : Int32) (M : Mem) : Option (Bool × Mem) := gd (isK v0 3) ((f_X3_emit v0 t1 (FI M 72 5) M).bind fun M43 => (f_X0_advance N M43).bind fun M47 => some (true, M47))
set_option maxHeartbeats 4000000 in
set_option maxRecDepth 100000 in
theorem w_X0_readOne_39 (C : CX p s m args meth c cX0_readOne 2 (some .boolean) RX0 D cy ad zz 0 82 A) {Fr Lr : Nat} {Rk : Nat → Int32 → Mem → Option (Bool × Mem)} (hRk : RKok l D cy ad zz Fr Lr Rk) {N : Nat} {M : Mem} {x1 : Int32} {rr : Bool} {M' : Mem} {v0 : Nat} {t1 : Int32} {H : Heap} {locs : List Loc} (hP : va_P D vwCl (pool cy ad 0 82 M) H) (hD : va_D A (pool cy ad 0 82 M)) (hS : va_S A s.heap H locs) {ls : Array Slot} (hl : lv_has ls 2 [(0, .ref (ad 72))]) (h : b_X0_readOne_39 N Rk x1 v0 t1 M = some (rr, M')) : W p l e ({ frames := Fr + 8, cells := 0, slots := 0, locals := Lr + 192 } : Room) s m args below meth c H locs 0 0 (MQ below (va_Qi (fun (x : Int32) (_ : Unit) => x = b2i rr) (fun _ t => PA D cy ad 0 82 A M' t) A) args s 0 0 A) (F0 m 39 ls [.int t1, .ref (ad v0)]) := by
  obtain ⟨hx, hb, hml, hown, hts, hr, hlk, hK, hN, hA, hX⟩ := id C
  unfold b_X0_readOne_39 at h
  refine lv_aload_n hx hb dX0_readOne_39 rfl (lv_at hl 0 rfl) ?_
  refine gf_0_5 C hP (iL (by decide)) (by decide) wd_273 dX0_readOne_40 ?_
  obtain ⟨gk1, h⟩ := gd_of h
  obtain ⟨M43, g43, h⟩ := bd_of h
  refine call_vV (As := [.int t1, .int (FI M 72 5)]) (rest := []) C hP hD hS (c_X3_emit (isK_of gk1) g43) (p_3 (isK_of gk1)) ⟨3, _, _, ent_3 (isK_of gk1), rfl, rfl⟩ (gV wd_370 wd_371 wd_372 wd_67 wd_373) ev_X3_emit ⟨rfl, rfl⟩ ⟨by dsimp only; omega, by dsimp only; omega⟩ hl.1 rfl (Nat.le_of_ble_eq_true rfl) dX0_readOne_43 (fun H locs hP hD hS => ?_)
  refine lv_aload_n hx hb dX0_readOne_46 rfl (lv_at hl 0 rfl) ?_
  obtain ⟨M47, g47, h⟩ := bd_of h
  refine call_vV (As := []) (rest := []) C hP hD hS (c_X0_advance g47) (iL (by decide)) ⟨0, _, _, ent_0 (by decide), rfl, rfl⟩ (gV wd_296 wd_298 wd_0 wd_74 wd_299) ev_X0_advance ⟨rfl, rfl⟩ ⟨by dsimp only; omega, by dsimp only; omega⟩ hl.1 rfl (Nat.le_of_ble_eq_true rfl) dX0_readOne_47 (fun H locs hP hD hS => ?_)
  refine lv_iconst (v := 1) hx hb dX0_readOne_50 (by decide) ?_
  exact rt_z (r := true) C hP hD hS dX0_readOne_51 (rw_end h)
def b_X0_readOne_20 (N : Nat) (Rk : Nat → Int32 → Mem → Option (Bool × Mem)) (x1 : Int32) (M : Mem) : Option (Bool × Mem) := (if (FI M 72 4) = (300 : Int32) then b_X0_readOne_39 N Rk x1 (RF M) (0 : Int32) M else b_X0_readOne_39 N Rk x1 (RF M) (1 : Int32) M)
set_option maxHeartbeats 4000000 in
set_option maxRecDepth 100000 in
theorem w_X0_readOne_20 (C : CX p s m args meth c cX0_readOne 2 (some .boolean) RX0 D cy ad zz 0 82 A) {Fr Lr : Nat} {Rk : Nat → Int32 → Mem → Option (Bool × Mem)} (hRk : RKok l D cy ad zz Fr Lr Rk) {N : Nat} {M : Mem} {x1 : Int32} {rr : Bool} {M' : Mem} {H : Heap} {locs : List Loc} (hP : va_P D vwCl (pool cy ad 0 82 M) H) (hD : va_D A (pool cy ad 0 82 M)) (hS : va_S A s.heap H locs) {ls : Array Slot} (hl : lv_has ls 2 [(0, .ref (ad 72))]) (h : b_X0_readOne_20 N Rk x1 M = some (rr, M')) : W p l e ({ frames := Fr + 8, cells := 0, slots := 0, locals := Lr + 192 } : Room) s m args below meth c H locs 0 0 (MQ below (va_Qi (fun (x : Int32) (_ : Unit) => x = b2i rr) (fun _ t => PA D cy ad 0 82 A M' t) A) args s 0 0 A) (F0 m 20 ls []) := by
  obtain ⟨hx, hb, hml, hown, hts, hr, hlk, hK, hN, hA, hX⟩ := id C
  unfold b_X0_readOne_20 at h
  refine lv_aload_n hx hb dX0_readOne_20 rfl (lv_at hl 0 rfl) ?_
  refine gf_0_6 C hP (iL (by decide)) (by decide) wd_274 dX0_readOne_21 ?_
  refine lv_aload_n hx hb dX0_readOne_24 rfl (lv_at hl 0 rfl) ?_
  refine gf_0_4 C hP (iL (by decide)) (by decide) wd_272 dX0_readOne_25 ?_
  refine lv_sipush (v := 300) hx hb dX0_readOne_28 (by decide) ?_
  refine lv_icmp_ne (tgt := 38) hx hb dX0_readOne_31 (by decide) (fun c31 => ?_) (fun c31 => ?_)
  · replace h := it_f c31 h
    refine lv_iconst (v := 1) hx hb dX0_readOne_38 (by decide) ?_
    exact w_X0_readOne_39 C hRk hP hD hS hl h
  · replace h := it_t c31 h
    refine lv_iconst (v := 0) hx hb dX0_readOne_34 (by decide) ?_
    refine lv_goto (tgt := 39) hx hb dX0_readOne_35 (by decide) ?_
    exact w_X0_readOne_39 C hRk hP hD hS hl h
def b_X0_readOne_70 (N : Nat) (Rk : Nat → Int32 → Mem → Option (Bool × Mem)) (x1 : Int32) (M : Mem) : Option (Bool × Mem) := (if x1 < (5 : Int32) then (if (FI M 72 4) = (45 : Int32) then (f_X0_advance N M).bind fun M87 => bd2 (Rk 2 (x1 + (1 : Int32)) M87) fun r94 M94 => (if r94 = true then gd (isK (RF M94) 3) ((f_X3_emit (RF M94) (2 : Int32) (0 : Int32) M94).bind fun M108 => some (true, M108)) else some (false, M94)) else (f_X0_advance N M).bind fun M114 => bd2 (Rk 0 (x1 + (1 : Int32)) M114) fun r121 M121 => (if r121 = true then (if (FI M121 72 4) = (41 : Int32) then (f_X0_advance N M121).bind fun M139 => some (true, M139) else some (false, M121)) else some (false, M121))) else some (false, M))
set_option maxHeartbeats 4000000 in
set_option maxRecDepth 100000 in
theorem w_X0_readOne_70 (C : CX p s m args meth c cX0_readOne 2 (some .boolean) RX0 D cy ad zz 0 82 A) {Fr Lr : Nat} {Rk : Nat → Int32 → Mem → Option (Bool × Mem)} (hRk : RKok l D cy ad zz Fr Lr Rk) {N : Nat} {M : Mem} {x1 : Int32} {rr : Bool} {M' : Mem} {H : Heap} {locs : List Loc} (hP : va_P D vwCl (pool cy ad 0 82 M) H) (hD : va_D A (pool cy ad 0 82 M)) (hS : va_S A s.heap H locs) {ls : Array Slot} (hl : lv_has ls 2 [(0, .ref (ad 72)), (1, .int x1)]) (h : b_X0_readOne_70 N Rk x1 M = some (rr, M')) : W p l e ({ frames := Fr + 8, cells := 0, slots := 0, locals := Lr + 192 } : Room) s m args below meth c H locs 0 0 (MQ below (va_Qi (fun (x : Int32) (_ : Unit) => x = b2i rr) (fun _ t => PA D cy ad 0 82 A M' t) A) args s 0 0 A) (F0 m 70 ls []) := by
  obtain ⟨hx, hb, hml, hown, hts, hr, hlk, hK, hN, hA, hX⟩ := id C
  unfold b_X0_readOne_70 at h
  refine lv_iload_n hx hb dX0_readOne_70 rfl (lv_at hl 1 rfl) ?_
  refine lv_iconst (v := 5) hx hb dX0_readOne_71 (by decide) ?_
  refine lv_icmp_lt (tgt := 77) hx hb dX0_readOne_72 (by decide) (fun c72 => ?_) (fun c72 => ?_)
  · replace h := it_t c72 h
    refine lv_aload_n hx hb dX0_readOne_77 rfl (lv_at hl 0 rfl) ?_
    refine gf_0_4 C hP (iL (by decide)) (by decide) wd_272 dX0_readOne_78 ?_
    refine lv_bipush (v := 45) hx hb dX0_readOne_81 (by decide) ?_
    refine lv_icmp_ne (tgt := 113) hx hb dX0_readOne_83 (by decide) (fun c83 => ?_) (fun c83 => ?_)
    · replace h := it_f c83 h
      refine lv_aload_n hx hb dX0_readOne_113 rfl (lv_at hl 0 rfl) ?_
      obtain ⟨M114, g114, h⟩ := bd_of h
      refine call_vV (As := []) (rest := []) C hP hD hS (c_X0_advance g114) (iL (by decide)) ⟨0, _, _, ent_0 (by decide), rfl, rfl⟩ (gV wd_296 wd_298 wd_0 wd_74 wd_299) ev_X0_advance ⟨rfl, rfl⟩ ⟨by dsimp only; omega, by dsimp only; omega⟩ hl.1 rfl (Nat.le_of_ble_eq_true rfl) dX0_readOne_114 (fun H locs hP hD hS => ?_)
      refine lv_aload_n hx hb dX0_readOne_117 rfl (lv_at hl 0 rfl) ?_
      refine lv_iload_n hx hb dX0_readOne_118 rfl (lv_at hl 1 rfl) ?_
      refine lv_iconst (v := 1) hx hb dX0_readOne_119 (by decide) ?_
      refine lv_iadd hx hb dX0_readOne_120 ?_
      obtain ⟨r121, M121, g121, h⟩ := bd2_of h
      refine call_iV (As := [.int (x1 + (1 : Int32))]) (rest := []) C hP hD hS (hRk.1 _ _ _ _ g121) (iL (by decide)) ⟨0, _, _, ent_0 (by decide), rfl, rfl⟩ (gV wd_342 wd_344 wd_5 wd_74 wd_345) ev_X0_readEither ⟨rfl, rfl⟩ ⟨by dsimp only; omega, by dsimp only; omega⟩ hl.1 rfl (Nat.le_of_ble_eq_true rfl) dX0_readOne_121 (fun H locs hP hD hS => ?_)
      refine lv_if_eq (tgt := 136) hx hb dX0_readOne_124 (by decide) (fun c124 => ?_) (fun c124 => ?_)
      · replace h := it_f (b2i_n c124) h
        refine lv_iconst (v := 0) hx hb dX0_readOne_136 (by decide) ?_
        exact rt_z (r := false) C hP hD hS dX0_readOne_137 (rw_end h)
      · replace h := it_t (b2i_1 c124) h
        refine lv_aload_n hx hb dX0_readOne_127 rfl (lv_at hl 0 rfl) ?_
        refine gf_0_4 C hP (iL (by decide)) (by decide) wd_272 dX0_readOne_128 ?_
        refine lv_bipush (v := 41) hx hb dX0_readOne_131 (by decide) ?_
        refine lv_icmp_eq (tgt := 138) hx hb dX0_readOne_133 (by decide) (fun c133 => ?_) (fun c133 => ?_)
        · replace h := it_t c133 h
          refine lv_aload_n hx hb dX0_readOne_138 rfl (lv_at hl 0 rfl) ?_
          obtain ⟨M139, g139, h⟩ := bd_of h
          refine call_vV (As := []) (rest := []) C hP hD hS (c_X0_advance g139) (iL (by decide)) ⟨0, _, _, ent_0 (by decide), rfl, rfl⟩ (gV wd_296 wd_298 wd_0 wd_74 wd_299) ev_X0_advance ⟨rfl, rfl⟩ ⟨by dsimp only; omega, by dsimp only; omega⟩ hl.1 rfl (Nat.le_of_ble_eq_true rfl) dX0_readOne_139 (fun H locs hP hD hS => ?_)
          refine lv_iconst (v := 1) hx hb dX0_readOne_142 (by decide) ?_
          exact rt_z (r := true) C hP hD hS dX0_readOne_143 (rw_end h)
        · replace h := it_f c133 h
          refine lv_iconst (v := 0) hx hb dX0_readOne_136 (by decide) ?_
          exact rt_z (r := false) C hP hD hS dX0_readOne_137 (rw_end h)
    · replace h := it_t c83 h
      refine lv_aload_n hx hb dX0_readOne_86 rfl (lv_at hl 0 rfl) ?_
      obtain ⟨M87, g87, h⟩ := bd_of h
      refine call_vV (As := []) (rest := []) C hP hD hS (c_X0_advance g87) (iL (by decide)) ⟨0, _, _, ent_0 (by decide), rfl, rfl⟩ (gV wd_296 wd_298 wd_0 wd_74 wd_299) ev_X0_advance ⟨rfl, rfl⟩ ⟨by dsimp only; omega, by dsimp only; omega⟩ hl.1 rfl (Nat.le_of_ble_eq_true rfl) dX0_readOne_87 (fun H locs hP hD hS => ?_)
      refine lv_aload_n hx hb dX0_readOne_90 rfl (lv_at hl 0 rfl) ?_
      refine lv_iload_n hx hb dX0_readOne_91 rfl (lv_at hl 1 rfl) ?_
      refine lv_iconst (v := 1) hx hb dX0_readOne_92 (by decide) ?_
      refine lv_iadd hx hb dX0_readOne_93 ?_
      obtain ⟨r94, M94, g94, h⟩ := bd2_of h
      refine call_iV (As := [.int (x1 + (1 : Int32))]) (rest := []) C hP hD hS (hRk.2.2 _ _ _ _ g94) (iL (by decide)) ⟨0, _, _, ent_0 (by decide), rfl, rfl⟩ (gV wd_366 wd_368 wd_11 wd_74 wd_369) ev_X0_readOne ⟨rfl, rfl⟩ ⟨by dsimp only; omega, by dsimp only; omega⟩ hl.1 rfl (Nat.le_of_ble_eq_true rfl) dX0_readOne_94 (fun H locs hP hD hS => ?_)
      refine lv_if_ne (tgt := 102) hx hb dX0_readOne_97 (by decide) (fun c97 => ?_) (fun c97 => ?_)
      · replace h := it_t (b2i_1 c97) h
        refine lv_aload_n hx hb dX0_readOne_102 rfl (lv_at hl 0 rfl) ?_
        refine gf_0_6 C hP (iL (by decide)) (by decide) wd_274 dX0_readOne_103 ?_
        refine lv_iconst (v := 2) hx hb dX0_readOne_106 (by decide) ?_
        refine lv_iconst (v := 0) hx hb dX0_readOne_107 (by decide) ?_
        obtain ⟨gk1, h⟩ := gd_of h
        obtain ⟨M108, g108, h⟩ := bd_of h
        refine call_vV (As := [.int (2 : Int32), .int (0 : Int32)]) (rest := []) C hP hD hS (c_X3_emit (isK_of gk1) g108) (p_3 (isK_of gk1)) ⟨3, _, _, ent_3 (isK_of gk1), rfl, rfl⟩ (gV wd_370 wd_371 wd_372 wd_67 wd_373) ev_X3_emit ⟨rfl, rfl⟩ ⟨by dsimp only; omega, by dsimp only; omega⟩ hl.1 rfl (Nat.le_of_ble_eq_true rfl) dX0_readOne_108 (fun H locs hP hD hS => ?_)
        refine lv_iconst (v := 1) hx hb dX0_readOne_111 (by decide) ?_
        exact rt_z (r := true) C hP hD hS dX0_readOne_112 (rw_end h)
      · replace h := it_f (b2i_n c97) h
        refine lv_iconst (v := 0) hx hb dX0_readOne_100 (by decide) ?_
        exact rt_z (r := false) C hP hD hS dX0_readOne_101 (rw_end h)
  · replace h := it_f c72 h
    refine lv_iconst (v := 0) hx hb dX0_readOne_75 (by decide) ?_
    exact rt_z (r := false) C hP hD hS dX0_readOne_76 (rw_end h)
def b_X0_readOne_0 (N : Nat) (Rk : Nat → Int32 → Mem → Option (Bool × Mem)) (x1 : Int32) (M : Mem) : Option (Bool × Mem) := (if (FI M 72 4) = (300 : Int32) then b_X0_readOne_20 N Rk x1 M else (if (FI M 72 4) = (301 : Int32) then b_X0_readOne_20 N Rk x1 M else (if (FI M 72 4) = (45 : Int32) then b_X0_readOne_70 N Rk x1 M else (if (FI M 72 4) = (40 : Int32) then b_X0_readOne_70 N Rk x1 M else some (false, M)))))
set_option maxHeartbeats 4000000 in
set_option maxRecDepth 100000 in
theorem w_X0_readOne_0 (C : CX p s m args meth c cX0_readOne 2 (some .boolean) RX0 D cy ad zz 0 82 A) {Fr Lr : Nat} {Rk : Nat → Int32 → Mem → Option (Bool × Mem)} (hRk : RKok l D cy ad zz Fr Lr Rk) {N : Nat} {M : Mem} {x1 : Int32} {rr : Bool} {M' : Mem} {H : Heap} {locs : List Loc} (hP : va_P D vwCl (pool cy ad 0 82 M) H) (hD : va_D A (pool cy ad 0 82 M)) (hS : va_S A s.heap H locs) {ls : Array Slot} (hl : lv_has ls 2 [(0, .ref (ad 72)), (1, .int x1)]) (h : b_X0_readOne_0 N Rk x1 M = some (rr, M')) : W p l e ({ frames := Fr + 8, cells := 0, slots := 0, locals := Lr + 192 } : Room) s m args below meth c H locs 0 0 (MQ below (va_Qi (fun (x : Int32) (_ : Unit) => x = b2i rr) (fun _ t => PA D cy ad 0 82 A M' t) A) args s 0 0 A) (F0 m 0 ls []) := by
  obtain ⟨hx, hb, hml, hown, hts, hr, hlk, hK, hN, hA, hX⟩ := id C
  unfold b_X0_readOne_0 at h
  refine lv_aload_n hx hb dX0_readOne_0 rfl (lv_at hl 0 rfl) ?_
  refine gf_0_4 C hP (iL (by decide)) (by decide) wd_272 dX0_readOne_1 ?_
  refine lv_sipush (v := 300) hx hb dX0_readOne_4 (by decide) ?_
  refine lv_icmp_eq (tgt := 20) hx hb dX0_readOne_7 (by decide) (fun c7 => ?_) (fun c7 => ?_)
  · replace h := it_t c7 h
    exact w_X0_readOne_20 C hRk hP hD hS (lv_sub hl [0] rfl) h
  · replace h := it_f c7 h
    refine lv_aload_n hx hb dX0_readOne_10 rfl (lv_at hl 0 rfl) ?_
    refine gf_0_4 C hP (iL (by decide)) (by decide) wd_272 dX0_readOne_11 ?_
    refine lv_sipush (v := 301) hx hb dX0_readOne_14 (by decide) ?_
    refine lv_icmp_ne (tgt := 52) hx hb dX0_readOne_17 (by decide) (fun c17 => ?_) (fun c17 => ?_)
    · replace h := it_f c17 h
      refine lv_aload_n hx hb dX0_readOne_52 rfl (lv_at hl 0 rfl) ?_
      refine gf_0_4 C hP (iL (by decide)) (by decide) wd_272 dX0_readOne_53 ?_
      refine lv_bipush (v := 45) hx hb dX0_readOne_56 (by decide) ?_
      refine lv_icmp_eq (tgt := 70) hx hb dX0_readOne_58 (by decide) (fun c58 => ?_) (fun c58 => ?_)
      · replace h := it_t c58 h
        exact w_X0_readOne_70 C hRk hP hD hS hl h
      · replace h := it_f c58 h
        refine lv_aload_n hx hb dX0_readOne_61 rfl (lv_at hl 0 rfl) ?_
        refine gf_0_4 C hP (iL (by decide)) (by decide) wd_272 dX0_readOne_62 ?_
        refine lv_bipush (v := 40) hx hb dX0_readOne_65 (by decide) ?_
        refine lv_icmp_ne (tgt := 75) hx hb dX0_readOne_67 (by decide) (fun c67 => ?_) (fun c67 => ?_)
        · replace h := it_f c67 h
          refine lv_iconst (v := 0) hx hb dX0_readOne_75 (by decide) ?_
          exact rt_z (r := false) C hP hD hS dX0_readOne_76 (rw_end h)
        · replace h := it_t c67 h
          exact w_X0_readOne_70 C hRk hP hD hS hl h
    · replace h := it_t c17 h
      exact w_X0_readOne_20 C hRk hP hD hS (lv_sub hl [0] rfl) h
def f_X0_readOne (N : Nat) (Rk : Nat → Int32 → Mem → Option (Bool × Mem)) (x1 : Int32) (M : Mem) : Option (Bool × Mem) := b_X0_readOne_0 N Rk x1 M
theorem c_X0_readOne {l : Launch} {D : va_G} {cy : Nat → ClassId} {ad : Nat → Nat} {zz : (Nat → Nat) × (Nat → Nat)} {Fr Lr : Nat} {Rk : Nat → Int32 → Mem → Option (Bool × Mem)} (hRk : RKok l D cy ad zz Fr Lr Rk) {N : Nat} {x1 : Int32} {M : Mem} {rr : Bool} {M' : Mem} (h : f_X0_readOne N Rk x1 M = some (rr, M')) : CTi l D cy ad zz 0 82 yX0_readOne (.code yX0_readOne cX0_readOne 2 (some .boolean) :: tb) ({ frames := Fr + 8, cells := 0, slots := 0, locals := Lr + 192 } : Room) [.ref (ad 72), .int x1] M (b2i rr) M' := by
  intro sz
  refine CX.of (by decide +kernel) (fun p e s m args below meth c H ls C hP hD hS hl => ?_) (Nat.le_of_ble_eq_true rfl)
  exact w_X0_readOne_0 C hRk hP hD hS hl h
def b_X0_readTerm_12 (N : Nat) (Rk : Nat → Int32 → Mem → Option (Bool × Mem)) (x1 : Int32) : Nat → Int32 → Mem → Option (Bool × Mem)
  | 0, _, _ => none
  | fu + 1, x2, M => (if (160 : Int32) ≤ x2 then some (true, M) else (if (FI M 72 4) = (42 : Int32) then (f_X0_advance N M).bind fun M29 => bd2 (f_X0_readOne N Rk x1 M29) fun r34 M34 => (if r34 = true then gd (isK (RF M34) 3) ((f_X3_emit (RF M34) (4 : Int32) (0 : Int32) M34).bind fun M48 => b_X0_readTerm_12 N Rk x1 fu (x2 + (1 : Int32)) M48) else some (false, M34)) else some (true, M)))
set_option maxHeartbeats 4000000 in
set_option maxRecDepth 100000 in
theorem w_X0_readTerm_12 (C : CX p s m args meth c cX0_readTerm 3 (some .boolean) RX0 D cy ad zz 0 82 A) {Fr Lr : Nat} {Rk : Nat → Int32 → Mem → Option (Bool × Mem)} (hRk : RKok l D cy ad zz Fr Lr Rk) {N : Nat} {x1 : Int32} {rr : Bool} {M' : Mem}  : ∀ (fu : Nat), ∀ (x2 : Int32), ∀ (M : Mem), ∀ (H : Heap) (locs : List Loc), va_P D vwCl (pool cy ad 0 82 M) H → va_D A (pool cy ad 0 82 M) → va_S A s.heap H locs → ∀ (ls : Array Slot), lv_has ls 3 [(0, .ref (ad 72)), (1, .int x1), (2, .int x2)] → b_X0_readTerm_12 N Rk x1 fu x2 M = some (rr, M') → W p l e ({ frames := Fr + 9, cells := 0, slots := 0, locals := Lr + 216 } : Room) s m args below meth c H locs 0 0 (MQ below (va_Qi (fun (x : Int32) (_ : Unit) => x = b2i rr) (fun _ t => PA D cy ad 0 82 A M' t) A) args s 0 0 A) (F0 m 12 ls []) := by
  obtain ⟨hx, hb, hml, hown, hts, hr, hlk, hK, hN, hA, hX⟩ := id C
  intro fu
  induction fu with
  | zero =>
    intro x2 M H locs hP hD hS ls hl h
    exact no_some (show none = some _ from h)
  | succ fu ih =>
    intro x2 M H locs hP hD hS ls hl h
    rw [b_X0_readTerm_12] at h
    refine lv_iload_n hx hb dX0_readTerm_12 rfl (lv_at hl 2 rfl) ?_
    refine lv_sipush (v := 160) hx hb dX0_readTerm_13 (by decide) ?_
    refine lv_icmp_ge (tgt := 57) hx hb dX0_readTerm_16 (by decide) (fun c16 => ?_) (fun c16 => ?_)
    · replace h := it_t c16 h
      refine lv_iconst (v := 1) hx hb dX0_readTerm_57 (by decide) ?_
      exact rt_z (r := true) C hP hD hS dX0_readTerm_58 (rw_end h)
    · replace h := it_f c16 h
      refine lv_aload_n hx hb dX0_readTerm_19 rfl (lv_at hl 0 rfl) ?_
      refine gf_0_4 C hP (iL (by decide)) (by decide) wd_272 dX0_readTerm_20 ?_
      refine lv_bipush (v := 42) hx hb dX0_readTerm_23 (by decide) ?_
      refine lv_icmp_ne (tgt := 57) hx hb dX0_readTerm_25 (by decide) (fun c25 => ?_) (fun c25 => ?_)
      · replace h := it_f c25 h
        refine lv_iconst (v := 1) hx hb dX0_readTerm_57 (by decide) ?_
        exact rt_z (r := true) C hP hD hS dX0_readTerm_58 (rw_end h)
      · replace h := it_t c25 h
        refine lv_aload_n hx hb dX0_readTerm_28 rfl (lv_at hl 0 rfl) ?_
        obtain ⟨M29, g29, h⟩ := bd_of h
        refine call_vV (As := []) (rest := []) C hP hD hS (c_X0_advance g29) (iL (by decide)) ⟨0, _, _, ent_0 (by decide), rfl, rfl⟩ (gV wd_296 wd_298 wd_0 wd_74 wd_299) ev_X0_advance ⟨rfl, rfl⟩ ⟨by dsimp only; omega, by dsimp only; omega⟩ hl.1 rfl (Nat.le_of_ble_eq_true rfl) dX0_readTerm_29 (fun H locs hP hD hS => ?_)
        refine lv_aload_n hx hb dX0_readTerm_32 rfl (lv_at hl 0 rfl) ?_
        refine lv_iload_n hx hb dX0_readTerm_33 rfl (lv_at hl 1 rfl) ?_
        obtain ⟨r34, M34, g34, h⟩ := bd2_of h
        refine call_iV (As := [.int x1]) (rest := []) C hP hD hS (c_X0_readOne hRk g34) (iL (by decide)) ⟨0, _, _, ent_0 (by decide), rfl, rfl⟩ (gV wd_366 wd_368 wd_11 wd_74 wd_369) ev_X0_readOne ⟨rfl, rfl⟩ ⟨by dsimp only; omega, by dsimp only; omega⟩ hl.1 rfl (Nat.le_of_ble_eq_true rfl) dX0_readTerm_34 (fun H locs hP hD hS => ?_)
        refine lv_if_ne (tgt := 42) hx hb dX0_readTerm_37 (by decide) (fun c37 => ?_) (fun c37 => ?_)
        · replace h := it_t (b2i_1 c37) h
          refine lv_aload_n hx hb dX0_readTerm_42 rfl (lv_at hl 0 rfl) ?_
          refine gf_0_6 C hP (iL (by decide)) (by decide) wd_274 dX0_readTerm_43 ?_
          refine lv_iconst (v := 4) hx hb dX0_readTerm_46 (by decide) ?_
          refine lv_iconst (v := 0) hx hb dX0_readTerm_47 (by decide) ?_
          obtain ⟨gk1, h⟩ := gd_of h
          obtain ⟨M48, g48, h⟩ := bd_of h
          refine call_vV (As := [.int (4 : Int32), .int (0 : Int32)]) (rest := []) C hP hD hS (c_X3_emit (isK_of gk1) g48) (p_3 (isK_of gk1)) ⟨3, _, _, ent_3 (isK_of gk1), rfl, rfl⟩ (gV wd_370 wd_371 wd_372 wd_67 wd_373) ev_X3_emit ⟨rfl, rfl⟩ ⟨by dsimp only; omega, by dsimp only; omega⟩ hl.1 rfl (Nat.le_of_ble_eq_true rfl) dX0_readTerm_48 (fun H locs hP hD hS => ?_)
          refine lv_iinc (v := (x2 + (1 : Int32))) (lv' := [(2, .int (x2 + (1 : Int32))), (0, .ref (ad 72)), (1, .int x1)]) hx hb dX0_readTerm_51 hl (k := 2) rfl rfl (by decide) rfl (fun ls hl => ?_)
          refine lv_goto (tgt := 12) hx hb dX0_readTerm_54 (by decide) ?_
          exact ih _ _ _ _ hP hD hS _ (lv_sub hl [1, 2, 0] rfl) h
        · replace h := it_f (b2i_n c37) h
          refine lv_iconst (v := 0) hx hb dX0_readTerm_40 (by decide) ?_
          exact rt_z (r := false) C hP hD hS dX0_readTerm_41 (rw_end h)
def b_X0_readTerm_0 (N : Nat) (Rk : Nat → Int32 → Mem → Option (Bool × Mem)) (x1 : Int32) (M : Mem) : Option (Bool × Mem) := bd2 (f_X0_readOne N Rk x1 M) fun r2 M2 => (if r2 = true then b_X0_readTerm_12 N Rk x1 N (0 : Int32) M2 else some (false, M2))
set_option maxHeartbeats 4000000 in
set_option maxRecDepth 100000 in
theorem w_X0_readTerm_0 (C : CX p s m args meth c cX0_readTerm 3 (some .boolean) RX0 D cy ad zz 0 82 A) {Fr Lr : Nat} {Rk : Nat → Int32 → Mem → Option (Bool × Mem)} (hRk : RKok l D cy ad zz Fr Lr Rk) {N : Nat} {M : Mem} {x1 : Int32} {rr : Bool} {M' : Mem} {H : Heap} {locs : List Loc} (hP : va_P D vwCl (pool cy ad 0 82 M) H) (hD : va_D A (pool cy ad 0 82 M)) (hS : va_S A s.heap H locs) {ls : Array Slot} (hl : lv_has ls 3 [(0, .ref (ad 72)), (1, .int x1)]) (h : b_X0_readTerm_0 N Rk x1 M = some (rr, M')) : W p l e ({ frames := Fr + 9, cells := 0, slots := 0, locals := Lr + 216 } : Room) s m args below meth c H locs 0 0 (MQ below (va_Qi (fun (x : Int32) (_ : Unit) => x = b2i rr) (fun _ t => PA D cy ad 0 82 A M' t) A) args s 0 0 A) (F0 m 0 ls []) := by
  obtain ⟨hx, hb, hml, hown, hts, hr, hlk, hK, hN, hA, hX⟩ := id C
  unfold b_X0_readTerm_0 at h
  refine lv_aload_n hx hb dX0_readTerm_0 rfl (lv_at hl 0 rfl) ?_
  refine lv_iload_n hx hb dX0_readTerm_1 rfl (lv_at hl 1 rfl) ?_
  obtain ⟨r2, M2, g2, h⟩ := bd2_of h
  refine call_iV (As := [.int x1]) (rest := []) C hP hD hS (c_X0_readOne hRk g2) (iL (by decide)) ⟨0, _, _, ent_0 (by decide), rfl, rfl⟩ (gV wd_366 wd_368 wd_11 wd_74 wd_369) ev_X0_readOne ⟨rfl, rfl⟩ ⟨by dsimp only; omega, by dsimp only; omega⟩ hl.1 rfl (Nat.le_of_ble_eq_true rfl) dX0_readTerm_2 (fun H locs hP hD hS => ?_)
  refine lv_if_ne (tgt := 10) hx hb dX0_readTerm_5 (by decide) (fun c5 => ?_) (fun c5 => ?_)
  · replace h := it_t (b2i_1 c5) h
    refine lv_iconst (v := 0) hx hb dX0_readTerm_10 (by decide) ?_
    refine lv_istore_n (lv' := [(2, .int (0 : Int32)), (0, .ref (ad 72)), (1, .int x1)]) hx hb dX0_readTerm_11 rfl hl (by decide) rfl (fun ls hl => ?_)
    exact w_X0_readTerm_12 C hRk N _ _ _ _ hP hD hS _ (lv_sub hl [1, 2, 0] rfl) h
  · replace h := it_f (b2i_n c5) h
    refine lv_iconst (v := 0) hx hb dX0_readTerm_8 (by decide) ?_
    exact rt_z (r := false) C hP hD hS dX0_readTerm_9 (rw_end h)
def f_X0_readTerm (N : Nat) (Rk : Nat → Int32 → Mem → Option (Bool × Mem)) (x1 : Int32) (M : Mem) : Option (Bool × Mem) := b_X0_readTerm_0 N Rk x1 M
theorem c_X0_readTerm {l : Launch} {D : va_G} {cy : Nat → ClassId} {ad : Nat → Nat} {zz : (Nat → Nat) × (Nat → Nat)} {Fr Lr : Nat} {Rk : Nat → Int32 → Mem → Option (Bool × Mem)} (hRk : RKok l D cy ad zz Fr Lr Rk) {N : Nat} {x1 : Int32} {M : Mem} {rr : Bool} {M' : Mem} (h : f_X0_readTerm N Rk x1 M = some (rr, M')) : CTi l D cy ad zz 0 82 yX0_readTerm (.code yX0_readTerm cX0_readTerm 3 (some .boolean) :: tb) ({ frames := Fr + 9, cells := 0, slots := 0, locals := Lr + 216 } : Room) [.ref (ad 72), .int x1] M (b2i rr) M' := by
  intro sz
  refine CX.of (by decide +kernel) (fun p e s m args below meth c H ls C hP hD hS hl => ?_) (Nat.le_of_ble_eq_true rfl)
  exact w_X0_readTerm_0 C hRk hP hD hS hl h
def b_X0_readSum_52 (N : Nat) (Rk : Nat → Int32 → Mem → Option (Bool × Mem)) (x1 : Int32) (k12 : Int32 → Mem → Option (Bool × Mem)) (x2 : Int32) (t0 : Int32) (M : Mem) : Option (Bool × Mem) := (f_X0_advance N M).bind fun M54 => bd2 (f_X0_readTerm N Rk x1 M54) fun r59 M59 => (if r59 = true then gd (isK (RF M59) 3) ((f_X3_emit (RF M59) t0 (0 : Int32) M59).bind fun M73 => k12 (x2 + (1 : Int32)) M73) else some (false, M59))
set_option maxHeartbeats 4000000 in
set_option maxRecDepth 100000 in
theorem w_X0_readSum_52 (C : CX p s m args meth c cX0_readSum 4 (some .boolean) RX0 D cy ad zz 0 82 A) {Fr Lr : Nat} {Rk : Nat → Int32 → Mem → Option (Bool × Mem)} (hRk : RKok l D cy ad zz Fr Lr Rk) {N : Nat} {M : Mem} {x1 : Int32} {k12 : Int32 → Mem → Option (Bool × Mem)} {rr : Bool} {M' : Mem} (hk12 : ∀ (x2 : Int32), ∀ (M : Mem), ∀ (H : Heap) (locs : List Loc), va_P D vwCl (pool cy ad 0 82 M) H → va_D A (pool cy ad 0 82 M) → va_S A s.heap H locs → ∀ (ls : Array Slot), lv_has ls 4 [(0, .ref (ad 72)), (1, .int x1), (2, .int x2)] → k12 x2 M = some (rr, M') → W p l e ({ frames := Fr + 10, cells := 0, slots := 0, locals := Lr + 240 } : Room) s m args below meth c H locs 0 0 (MQ below (va_Qi (fun (x : Int32) (_ : Unit) => x = b2i rr) (fun _ t => PA D cy ad 0 82 A M' t) A) args s 0 0 A) (F0 m 12 ls [])) {x2 : Int32} {t0 : Int32} {H : Heap} {locs : List Loc} (hP : va_P D vwCl (pool cy ad 0 82 M) H) (hD : va_D A (pool cy ad 0 82 M)) (hS : va_S A s.heap H locs) {ls : Array Slot} (hl : lv_has ls 4 [(0, .ref (ad 72)), (1, .int x1), (2, .int x2)]) (h : b_X0_readSum_52 N Rk x1 k12 x2 t0 M = some (rr, M')) : W p l e ({ frames := Fr + 10, cells := 0, slots := 0, locals := Lr + 240 } : Room) s m args below meth c H locs 0 0 (MQ below (va_Qi (fun (x : Int32) (_ : Unit) => x = b2i rr) (fun _ t => PA D cy ad 0 82 A M' t) A) args s 0 0 A) (F0 m 52 ls [.int t0]) := by
  obtain ⟨hx, hb, hml, hown, hts, hr, hlk, hK, hN, hA, hX⟩ := id C
  unfold b_X0_readSum_52 at h
  refine lv_istore_n (lv' := [(3, .int t0), (0, .ref (ad 72)), (1, .int x1), (2, .int x2)]) hx hb dX0_readSum_52 rfl hl (by decide) rfl (fun ls hl => ?_)
  refine lv_aload_n hx hb dX0_readSum_53 rfl (lv_at hl 1 rfl) ?_
  obtain ⟨M54, g54, h⟩ := bd_of h
  refine call_vV (As := []) (rest := []) C hP hD hS (c_X0_advance g54) (iL (by decide)) ⟨0, _, _, ent_0 (by decide), rfl, rfl⟩ (gV wd_296 wd_298 wd_0 wd_74 wd_299) ev_X0_advance ⟨rfl, rfl⟩ ⟨by dsimp only; omega, by dsimp only; omega⟩ hl.1 rfl (Nat.le_of_ble_eq_true rfl) dX0_readSum_54 (fun H locs hP hD hS => ?_)
  refine lv_aload_n hx hb dX0_readSum_57 rfl (lv_at hl 1 rfl) ?_
  refine lv_iload_n hx hb dX0_readSum_58 rfl (lv_at hl 2 rfl) ?_
  obtain ⟨r59, M59, g59, h⟩ := bd2_of h
  refine call_iV (As := [.int x1]) (rest := []) C hP hD hS (c_X0_readTerm hRk g59) (iL (by decide)) ⟨0, _, _, ent_0 (by decide), rfl, rfl⟩ (gV wd_362 wd_364 wd_10 wd_74 wd_365) ev_X0_readTerm ⟨rfl, rfl⟩ ⟨by dsimp only; omega, by dsimp only; omega⟩ hl.1 rfl (Nat.le_of_ble_eq_true rfl) dX0_readSum_59 (fun H locs hP hD hS => ?_)
  refine lv_if_ne (tgt := 67) hx hb dX0_readSum_62 (by decide) (fun c62 => ?_) (fun c62 => ?_)
  · replace h := it_t (b2i_1 c62) h
    refine lv_aload_n hx hb dX0_readSum_67 rfl (lv_at hl 1 rfl) ?_
    refine gf_0_6 C hP (iL (by decide)) (by decide) wd_274 dX0_readSum_68 ?_
    refine lv_iload_n hx hb dX0_readSum_71 rfl (lv_at hl 0 rfl) ?_
    refine lv_iconst (v := 0) hx hb dX0_readSum_72 (by decide) ?_
    obtain ⟨gk1, h⟩ := gd_of h
    obtain ⟨M73, g73, h⟩ := bd_of h
    refine call_vV (As := [.int t0, .int (0 : Int32)]) (rest := []) C hP hD hS (c_X3_emit (isK_of gk1) g73) (p_3 (isK_of gk1)) ⟨3, _, _, ent_3 (isK_of gk1), rfl, rfl⟩ (gV wd_370 wd_371 wd_372 wd_67 wd_373) ev_X3_emit ⟨rfl, rfl⟩ ⟨by dsimp only; omega, by dsimp only; omega⟩ hl.1 rfl (Nat.le_of_ble_eq_true rfl) dX0_readSum_73 (fun H locs hP hD hS => ?_)
    refine lv_iinc (v := (x2 + (1 : Int32))) (lv' := [(2, .int (x2 + (1 : Int32))), (3, .int t0), (0, .ref (ad 72)), (1, .int x1)]) hx hb dX0_readSum_76 hl (k := 3) rfl rfl (by decide) rfl (fun ls hl => ?_)
    refine lv_goto (tgt := 12) hx hb dX0_readSum_79 (by decide) ?_
    exact hk12 _ _ _ _ hP hD hS _ (lv_sub hl [2, 3, 0] rfl) h
  · replace h := it_f (b2i_n c62) h
    refine lv_iconst (v := 0) hx hb dX0_readSum_65 (by decide) ?_
    exact rt_z (r := false) C hP hD hS dX0_readSum_66 (rw_end h)
def b_X0_readSum_37 (N : Nat) (Rk : Nat → Int32 → Mem → Option (Bool × Mem)) (x1 : Int32) (k12 : Int32 → Mem → Option (Bool × Mem)) (x2 : Int32) (M : Mem) : Option (Bool × Mem) := (if (FI M 72 4) = (43 : Int32) then b_X0_readSum_52 N Rk x1 k12 x2 (5 : Int32) M else b_X0_readSum_52 N Rk x1 k12 x2 (6 : Int32) M)
set_option maxHeartbeats 4000000 in
set_option maxRecDepth 100000 in
theorem w_X0_readSum_37 (C : CX p s m args meth c cX0_readSum 4 (some .boolean) RX0 D cy ad zz 0 82 A) {Fr Lr : Nat} {Rk : Nat → Int32 → Mem → Option (Bool × Mem)} (hRk : RKok l D cy ad zz Fr Lr Rk) {N : Nat} {M : Mem} {x1 : Int32} {k12 : Int32 → Mem → Option (Bool × Mem)} {rr : Bool} {M' : Mem} (hk12 : ∀ (x2 : Int32), ∀ (M : Mem), ∀ (H : Heap) (locs : List Loc), va_P D vwCl (pool cy ad 0 82 M) H → va_D A (pool cy ad 0 82 M) → va_S A s.heap H locs → ∀ (ls : Array Slot), lv_has ls 4 [(0, .ref (ad 72)), (1, .int x1), (2, .int x2)] → k12 x2 M = some (rr, M') → W p l e ({ frames := Fr + 10, cells := 0, slots := 0, locals := Lr + 240 } : Room) s m args below meth c H locs 0 0 (MQ below (va_Qi (fun (x : Int32) (_ : Unit) => x = b2i rr) (fun _ t => PA D cy ad 0 82 A M' t) A) args s 0 0 A) (F0 m 12 ls [])) {x2 : Int32} {H : Heap} {locs : List Loc} (hP : va_P D vwCl (pool cy ad 0 82 M) H) (hD : va_D A (pool cy ad 0 82 M)) (hS : va_S A s.heap H locs) {ls : Array Slot} (hl : lv_has ls 4 [(0, .ref (ad 72)), (1, .int x1), (2, .int x2)]) (h : b_X0_readSum_37 N Rk x1 k12 x2 M = some (rr, M')) : W p l e ({ frames := Fr + 10, cells := 0, slots := 0, locals := Lr + 240 } : Room) s m args below meth c H locs 0 0 (MQ below (va_Qi (fun (x : Int32) (_ : Unit) => x = b2i rr) (fun _ t => PA D cy ad 0 82 A M' t) A) args s 0 0 A) (F0 m 37 ls []) := by
  obtain ⟨hx, hb, hml, hown, hts, hr, hlk, hK, hN, hA, hX⟩ := id C
  unfold b_X0_readSum_37 at h
  refine lv_aload_n hx hb dX0_readSum_37 rfl (lv_at hl 0 rfl) ?_
  refine gf_0_4 C hP (iL (by decide)) (by decide) wd_272 dX0_readSum_38 ?_
  refine lv_bipush (v := 43) hx hb dX0_readSum_41 (by decide) ?_
  refine lv_icmp_ne (tgt := 50) hx hb dX0_readSum_43 (by decide) (fun c43 => ?_) (fun c43 => ?_)
  · replace h := it_f c43 h
    refine lv_bipush (v := 6) hx hb dX0_readSum_50 (by decide) ?_
    exact w_X0_readSum_52 C hRk hk12 hP hD hS hl h
  · replace h := it_t c43 h
    refine lv_iconst (v := 5) hx hb dX0_readSum_46 (by decide) ?_
    refine lv_goto (tgt := 52) hx hb dX0_readSum_47 (by decide) ?_
    exact w_X0_readSum_52 C hRk hk12 hP hD hS hl h
def b_X0_readSum_12 (N : Nat) (Rk : Nat → Int32 → Mem → Option (Bool × Mem)) (x1 : Int32) : Nat → Int32 → Mem → Option (Bool × Mem)
  | 0, _, _ => none
  | fu + 1, x2, M => (if (160 : Int32) ≤ x2 then some (true, M) else (if (FI M 72 4) = (43 : Int32) then b_X0_readSum_37 N Rk x1 (b_X0_readSum_12 N Rk x1 fu) x2 M else (if (FI M 72 4) = (45 : Int32) then b_X0_readSum_37 N Rk x1 (b_X0_readSum_12 N Rk x1 fu) x2 M else some (true, M))))
set_option maxHeartbeats 4000000 in
set_option maxRecDepth 100000 in
theorem w_X0_readSum_12 (C : CX p s m args meth c cX0_readSum 4 (some .boolean) RX0 D cy ad zz 0 82 A) {Fr Lr : Nat} {Rk : Nat → Int32 → Mem → Option (Bool × Mem)} (hRk : RKok l D cy ad zz Fr Lr Rk) {N : Nat} {x1 : Int32} {rr : Bool} {M' : Mem}  : ∀ (fu : Nat), ∀ (x2 : Int32), ∀ (M : Mem), ∀ (H : Heap) (locs : List Loc), va_P D vwCl (pool cy ad 0 82 M) H → va_D A (pool cy ad 0 82 M) → va_S A s.heap H locs → ∀ (ls : Array Slot), lv_has ls 4 [(0, .ref (ad 72)), (1, .int x1), (2, .int x2)] → b_X0_readSum_12 N Rk x1 fu x2 M = some (rr, M') → W p l e ({ frames := Fr + 10, cells := 0, slots := 0, locals := Lr + 240 } : Room) s m args below meth c H locs 0 0 (MQ below (va_Qi (fun (x : Int32) (_ : Unit) => x = b2i rr) (fun _ t => PA D cy ad 0 82 A M' t) A) args s 0 0 A) (F0 m 12 ls []) := by
  obtain ⟨hx, hb, hml, hown, hts, hr, hlk, hK, hN, hA, hX⟩ := id C
  intro fu
  induction fu with
  | zero =>
    intro x2 M H locs hP hD hS ls hl h
    exact no_some (show none = some _ from h)
  | succ fu ih =>
    intro x2 M H locs hP hD hS ls hl h
    rw [b_X0_readSum_12] at h
    refine lv_iload_n hx hb dX0_readSum_12 rfl (lv_at hl 2 rfl) ?_
    refine lv_sipush (v := 160) hx hb dX0_readSum_13 (by decide) ?_
    refine lv_icmp_ge (tgt := 82) hx hb dX0_readSum_16 (by decide) (fun c16 => ?_) (fun c16 => ?_)
    · replace h := it_t c16 h
      refine lv_iconst (v := 1) hx hb dX0_readSum_82 (by decide) ?_
      exact rt_z (r := true) C hP hD hS dX0_readSum_83 (rw_end h)
    · replace h := it_f c16 h
      refine lv_aload_n hx hb dX0_readSum_19 rfl (lv_at hl 0 rfl) ?_
      refine gf_0_4 C hP (iL (by decide)) (by decide) wd_272 dX0_readSum_20 ?_
      refine lv_bipush (v := 43) hx hb dX0_readSum_23 (by decide) ?_
      refine lv_icmp_eq (tgt := 37) hx hb dX0_readSum_25 (by decide) (fun c25 => ?_) (fun c25 => ?_)
      · replace h := it_t c25 h
        exact w_X0_readSum_37 C hRk ih hP hD hS hl h
      · replace h := it_f c25 h
        refine lv_aload_n hx hb dX0_readSum_28 rfl (lv_at hl 0 rfl) ?_
        refine gf_0_4 C hP (iL (by decide)) (by decide) wd_272 dX0_readSum_29 ?_
        refine lv_bipush (v := 45) hx hb dX0_readSum_32 (by decide) ?_
        refine lv_icmp_ne (tgt := 82) hx hb dX0_readSum_34 (by decide) (fun c34 => ?_) (fun c34 => ?_)
        · replace h := it_f c34 h
          refine lv_iconst (v := 1) hx hb dX0_readSum_82 (by decide) ?_
          exact rt_z (r := true) C hP hD hS dX0_readSum_83 (rw_end h)
        · replace h := it_t c34 h
          exact w_X0_readSum_37 C hRk ih hP hD hS hl h
def b_X0_readSum_0 (N : Nat) (Rk : Nat → Int32 → Mem → Option (Bool × Mem)) (x1 : Int32) (M : Mem) : Option (Bool × Mem) := bd2 (f_X0_readTerm N Rk x1 M) fun r2 M2 => (if r2 = true then b_X0_readSum_12 N Rk x1 N (0 : Int32) M2 else some (false, M2))
set_option maxHeartbeats 4000000 in
set_option maxRecDepth 100000 in
theorem w_X0_readSum_0 (C : CX p s m args meth c cX0_readSum 4 (some .boolean) RX0 D cy ad zz 0 82 A) {Fr Lr : Nat} {Rk : Nat → Int32 → Mem → Option (Bool × Mem)} (hRk : RKok l D cy ad zz Fr Lr Rk) {N : Nat} {M : Mem} {x1 : Int32} {rr : Bool} {M' : Mem} {H : Heap} {locs : List Loc} (hP : va_P D vwCl (pool cy ad 0 82 M) H) (hD : va_D A (pool cy ad 0 82 M)) (hS : va_S A s.heap H locs) {ls : Array Slot} (hl : lv_has ls 4 [(0, .ref (ad 72)), (1, .int x1)]) (h : b_X0_readSum_0 N Rk x1 M = some (rr, M')) : W p l e ({ frames := Fr + 10, cells := 0, slots := 0, locals := Lr + 240 } : Room) s m args below meth c H locs 0 0 (MQ below (va_Qi (fun (x : Int32) (_ : Unit) => x = b2i rr) (fun _ t => PA D cy ad 0 82 A M' t) A) args s 0 0 A) (F0 m 0 ls []) := by
  obtain ⟨hx, hb, hml, hown, hts, hr, hlk, hK, hN, hA, hX⟩ := id C
  unfold b_X0_readSum_0 at h
  refine lv_aload_n hx hb dX0_readSum_0 rfl (lv_at hl 0 rfl) ?_
  refine lv_iload_n hx hb dX0_readSum_1 rfl (lv_at hl 1 rfl) ?_
  obtain ⟨r2, M2, g2, h⟩ := bd2_of h
  refine call_iV (As := [.int x1]) (rest := []) C hP hD hS (c_X0_readTerm hRk g2) (iL (by decide)) ⟨0, _, _, ent_0 (by decide), rfl, rfl⟩ (gV wd_362 wd_364 wd_10 wd_74 wd_365) ev_X0_readTerm ⟨rfl, rfl⟩ ⟨by dsimp only; omega, by dsimp only; omega⟩ hl.1 rfl (Nat.le_of_ble_eq_true rfl) dX0_readSum_2 (fun H locs hP hD hS => ?_)
  refine lv_if_ne (tgt := 10) hx hb dX0_readSum_5 (by decide) (fun c5 => ?_) (fun c5 => ?_)
  · replace h := it_t (b2i_1 c5) h
    refine lv_iconst (v := 0) hx hb dX0_readSum_10 (by decide) ?_
    refine lv_istore_n (lv' := [(2, .int (0 : Int32)), (0, .ref (ad 72)), (1, .int x1)]) hx hb dX0_readSum_11 rfl hl (by decide) rfl (fun ls hl => ?_)
    exact w_X0_readSum_12 C hRk N _ _ _ _ hP hD hS _ (lv_sub hl [1, 2, 0] rfl) h
  · replace h := it_f (b2i_n c5) h
    refine lv_iconst (v := 0) hx hb dX0_readSum_8 (by decide) ?_
    exact rt_z (r := false) C hP hD hS dX0_readSum_9 (rw_end h)
def f_X0_readSum (N : Nat) (Rk : Nat → Int32 → Mem → Option (Bool × Mem)) (x1 : Int32) (M : Mem) : Option (Bool × Mem) := b_X0_readSum_0 N Rk x1 M
theorem c_X0_readSum {l : Launch} {D : va_G} {cy : Nat → ClassId} {ad : Nat → Nat} {zz : (Nat → Nat) × (Nat → Nat)} {Fr Lr : Nat} {Rk : Nat → Int32 → Mem → Option (Bool × Mem)} (hRk : RKok l D cy ad zz Fr Lr Rk) {N : Nat} {x1 : Int32} {M : Mem} {rr : Bool} {M' : Mem} (h : f_X0_readSum N Rk x1 M = some (rr, M')) : CTi l D cy ad zz 0 82 yX0_readSum (.code yX0_readSum cX0_readSum 4 (some .boolean) :: tb) ({ frames := Fr + 10, cells := 0, slots := 0, locals := Lr + 240 } : Room) [.ref (ad 72), .int x1] M (b2i rr) M' := by
  intro sz
  refine CX.of (by decide +kernel) (fun p e s m args below meth c H ls C hP hD hS hl => ?_) (Nat.le_of_ble_eq_true rfl)
  exact w_X0_readSum_0 C hRk hP hD hS hl h
def b_X0_readCompared_46 (N : Nat) (Rk : Nat → Int32 → Mem → Option (Bool × Mem)) (x1 : Int32) (t0 : Int32) (M : Mem) : Option (Bool × Mem) := (f_X0_advance N M).bind fun M48 => bd2 (f_X0_readSum N Rk x1 M48) fun r53 M53 => (if r53 = true then gd (isK (RF M53) 3) ((f_X3_emit (RF M53) t0 (0 : Int32) M53).bind fun M67 => some (true, M67)) else some (false, M53))
set_option maxHeartbeats 4000000 in
set_option maxRecDepth 100000 in
theorem w_X0_readCompared_46 (C : CX p s m args meth c cX0_readCompared 3 (some .boolean) RX0 D cy ad zz 0 82 A) {Fr Lr : Nat} {Rk : Nat → Int32 → Mem → Option (Bool × Mem)} (hRk : RKok l D cy ad zz Fr Lr Rk) {N : Nat} {M : Mem} {x1 : Int32} {rr : Bool} {M' : Mem} {t0 : Int32} {H : Heap} {locs : List Loc} (hP : va_P D vwCl (pool cy ad 0 82 M) H) (hD : va_D A (pool cy ad 0 82 M)) (hS : va_S A s.heap H locs) {ls : Array Slot} (hl : lv_has ls 3 [(0, .ref (ad 72)), (1, .int x1)]) (h : b_X0_readCompared_46 N Rk x1 t0 M = some (rr, M')) : W p l e ({ frames := Fr + 11, cells := 0, slots := 0, locals := Lr + 264 } : Room) s m args below meth c H locs 0 0 (MQ below (va_Qi (fun (x : Int32) (_ : Unit) => x = b2i rr) (fun _ t => PA D cy ad 0 82 A M' t) A) args s 0 0 A) (F0 m 46 ls [.int t0]) := by
  obtain ⟨hx, hb, hml, hown, hts, hr, hlk, hK, hN, hA, hX⟩ := id C
  unfold b_X0_readCompared_46 at h
  refine lv_istore_n (lv' := [(2, .int t0), (0, .ref (ad 72)), (1, .int x1)]) hx hb dX0_readCompared_46 rfl hl (by decide) rfl (fun ls hl => ?_)
  refine lv_aload_n hx hb dX0_readCompared_47 rfl (lv_at hl 1 rfl) ?_
  obtain ⟨M48, g48, h⟩ := bd_of h
  refine call_vV (As := []) (rest := []) C hP hD hS (c_X0_advance g48) (iL (by decide)) ⟨0, _, _, ent_0 (by decide), rfl, rfl⟩ (gV wd_296 wd_298 wd_0 wd_74 wd_299) ev_X0_advance ⟨rfl, rfl⟩ ⟨by dsimp only; omega, by dsimp only; omega⟩ hl.1 rfl (Nat.le_of_ble_eq_true rfl) dX0_readCompared_48 (fun H locs hP hD hS => ?_)
  refine lv_aload_n hx hb dX0_readCompared_51 rfl (lv_at hl 1 rfl) ?_
  refine lv_iload_n hx hb dX0_readCompared_52 rfl (lv_at hl 2 rfl) ?_
  obtain ⟨r53, M53, g53, h⟩ := bd2_of h
  refine call_iV (As := [.int x1]) (rest := []) C hP hD hS (c_X0_readSum hRk g53) (iL (by decide)) ⟨0, _, _, ent_0 (by decide), rfl, rfl⟩ (gV wd_358 wd_360 wd_9 wd_74 wd_361) ev_X0_readSum ⟨rfl, rfl⟩ ⟨by dsimp only; omega, by dsimp only; omega⟩ hl.1 rfl (Nat.le_of_ble_eq_true rfl) dX0_readCompared_53 (fun H locs hP hD hS => ?_)
  refine lv_if_ne (tgt := 61) hx hb dX0_readCompared_56 (by decide) (fun c56 => ?_) (fun c56 => ?_)
  · replace h := it_t (b2i_1 c56) h
    refine lv_aload_n hx hb dX0_readCompared_61 rfl (lv_at hl 1 rfl) ?_
    refine gf_0_6 C hP (iL (by decide)) (by decide) wd_274 dX0_readCompared_62 ?_
    refine lv_iload_n hx hb dX0_readCompared_65 rfl (lv_at hl 0 rfl) ?_
    refine lv_iconst (v := 0) hx hb dX0_readCompared_66 (by decide) ?_
    obtain ⟨gk1, h⟩ := gd_of h
    obtain ⟨M67, g67, h⟩ := bd_of h
    refine call_vV (As := [.int t0, .int (0 : Int32)]) (rest := []) C hP hD hS (c_X3_emit (isK_of gk1) g67) (p_3 (isK_of gk1)) ⟨3, _, _, ent_3 (isK_of gk1), rfl, rfl⟩ (gV wd_370 wd_371 wd_372 wd_67 wd_373) ev_X3_emit ⟨rfl, rfl⟩ ⟨by dsimp only; omega, by dsimp only; omega⟩ hl.1 rfl (Nat.le_of_ble_eq_true rfl) dX0_readCompared_67 (fun H locs hP hD hS => ?_)
    refine lv_iconst (v := 1) hx hb dX0_readCompared_70 (by decide) ?_
    exact rt_z (r := true) C hP hD hS dX0_readCompared_71 (rw_end h)
  · replace h := it_f (b2i_n c56) h
    refine lv_iconst (v := 0) hx hb dX0_readCompared_59 (by decide) ?_
    exact rt_z (r := false) C hP hD hS dX0_readCompared_60 (rw_end h)
def b_X0_readCompared_30 (N : Nat) (Rk : Nat → Int32 → Mem → Option (Bool × Mem)) (x1 : Int32) (M : Mem) : Option (Bool × Mem) := (if (FI M 72 4) = (60 : Int32) then b_X0_readCompared_46 N Rk x1 (7 : Int32) M else b_X0_readCompared_46 N Rk x1 (8 : Int32) M)
set_option maxHeartbeats 4000000 in
set_option maxRecDepth 100000 in
theorem w_X0_readCompared_30 (C : CX p s m args meth c cX0_readCompared 3 (some .boolean) RX0 D cy ad zz 0 82 A) {Fr Lr : Nat} {Rk : Nat → Int32 → Mem → Option (Bool × Mem)} (hRk : RKok l D cy ad zz Fr Lr Rk) {N : Nat} {M : Mem} {x1 : Int32} {rr : Bool} {M' : Mem} {H : Heap} {locs : List Loc} (hP : va_P D vwCl (pool cy ad 0 82 M) H) (hD : va_D A (pool cy ad 0 82 M)) (hS : va_S A s.heap H locs) {ls : Array Slot} (hl : lv_has ls 3 [(0, .ref (ad 72)), (1, .int x1)]) (h : b_X0_readCompared_30 N Rk x1 M = some (rr, M')) : W p l e ({ frames := Fr + 11, cells := 0, slots := 0, locals := Lr + 264 } : Room) s m args below meth c H locs 0 0 (MQ below (va_Qi (fun (x : Int32) (_ : Unit) => x = b2i rr) (fun _ t => PA D cy ad 0 82 A M' t) A) args s 0 0 A) (F0 m 30 ls []) := by
  obtain ⟨hx, hb, hml, hown, hts, hr, hlk, hK, hN, hA, hX⟩ := id C
  unfold b_X0_readCompared_30 at h
  refine lv_aload_n hx hb dX0_readCompared_30 rfl (lv_at hl 0 rfl) ?_
  refine gf_0_4 C hP (iL (by decide)) (by decide) wd_272 dX0_readCompared_31 ?_
  refine lv_bipush (v := 60) hx hb dX0_readCompared_34 (by decide) ?_
  refine lv_icmp_ne (tgt := 44) hx hb dX0_readCompared_36 (by decide) (fun c36 => ?_) (fun c36 => ?_)
  · replace h := it_f c36 h
    refine lv_bipush (v := 8) hx hb dX0_readCompared_44 (by decide) ?_
    exact w_X0_readCompared_46 C hRk hP hD hS hl h
  · replace h := it_t c36 h
    refine lv_bipush (v := 7) hx hb dX0_readCompared_39 (by decide) ?_
    refine lv_goto (tgt := 46) hx hb dX0_readCompared_41 (by decide) ?_
    exact w_X0_readCompared_46 C hRk hP hD hS hl h
def b_X0_readCompared_0 (N : Nat) (Rk : Nat → Int32 → Mem → Option (Bool × Mem)) (x1 : Int32) (M : Mem) : Option (Bool × Mem) := bd2 (f_X0_readSum N Rk x1 M) fun r2 M2 => (if r2 = true then (if (FI M2 72 4) = (60 : Int32) then b_X0_readCompared_30 N Rk x1 M2 else (if (FI M2 72 4) = (61 : Int32) then b_X0_readCompared_30 N Rk x1 M2 else some (true, M2))) else some (false, M2))
set_option maxHeartbeats 4000000 in
set_option maxRecDepth 100000 in
theorem w_X0_readCompared_0 (C : CX p s m args meth c cX0_readCompared 3 (some .boolean) RX0 D cy ad zz 0 82 A) {Fr Lr : Nat} {Rk : Nat → Int32 → Mem → Option (Bool × Mem)} (hRk : RKok l D cy ad zz Fr Lr Rk) {N : Nat} {M : Mem} {x1 : Int32} {rr : Bool} {M' : Mem} {H : Heap} {locs : List Loc} (hP : va_P D vwCl (pool cy ad 0 82 M) H) (hD : va_D A (pool cy ad 0 82 M)) (hS : va_S A s.heap H locs) {ls : Array Slot} (hl : lv_has ls 3 [(0, .ref (ad 72)), (1, .int x1)]) (h : b_X0_readCompared_0 N Rk x1 M = some (rr, M')) : W p l e ({ frames := Fr + 11, cells := 0, slots := 0, locals := Lr + 264 } : Room) s m args below meth c H locs 0 0 (MQ below (va_Qi (fun (x : Int32) (_ : Unit) => x = b2i rr) (fun _ t => PA D cy ad 0 82 A M' t) A) args s 0 0 A) (F0 m 0 ls []) := by
  obtain ⟨hx, hb, hml, hown, hts, hr, hlk, hK, hN, hA, hX⟩ := id C
  unfold b_X0_readCompared_0 at h
  refine lv_aload_n hx hb dX0_readCompared_0 rfl (lv_at hl 0 rfl) ?_
  refine lv_iload_n hx hb dX0_readCompared_1 rfl (lv_at hl 1 rfl) ?_
  obtain ⟨r2, M2, g2, h⟩ := bd2_of h
  refine call_iV (As := [.int x1]) (rest := []) C hP hD hS (c_X0_readSum hRk g2) (iL (by decide)) ⟨0, _, _, ent_0 (by decide), rfl, rfl⟩ (gV wd_358 wd_360 wd_9 wd_74 wd_361) ev_X0_readSum ⟨rfl, rfl⟩ ⟨by dsimp only; omega, by dsimp only; omega⟩ hl.1 rfl (Nat.le_of_ble_eq_true rfl) dX0_readCompared_2 (fun H locs hP hD hS => ?_)
  refine lv_if_ne (tgt := 10) hx hb dX0_readCompared_5 (by decide) (fun c5 => ?_) (fun c5 => ?_)
  · replace h := it_t (b2i_1 c5) h
    refine lv_aload_n hx hb dX0_readCompared_10 rfl (lv_at hl 0 rfl) ?_
    refine gf_0_4 C hP (iL (by decide)) (by decide) wd_272 dX0_readCompared_11 ?_
    refine lv_bipush (v := 60) hx hb dX0_readCompared_14 (by decide) ?_
    refine lv_icmp_eq (tgt := 30) hx hb dX0_readCompared_16 (by decide) (fun c16 => ?_) (fun c16 => ?_)
    · replace h := it_t c16 h
      exact w_X0_readCompared_30 C hRk hP hD hS hl h
    · replace h := it_f c16 h
      refine lv_aload_n hx hb dX0_readCompared_19 rfl (lv_at hl 0 rfl) ?_
      refine gf_0_4 C hP (iL (by decide)) (by decide) wd_272 dX0_readCompared_20 ?_
      refine lv_bipush (v := 61) hx hb dX0_readCompared_23 (by decide) ?_
      refine lv_icmp_eq (tgt := 30) hx hb dX0_readCompared_25 (by decide) (fun c25 => ?_) (fun c25 => ?_)
      · replace h := it_t c25 h
        exact w_X0_readCompared_30 C hRk hP hD hS hl h
      · replace h := it_f c25 h
        refine lv_iconst (v := 1) hx hb dX0_readCompared_28 (by decide) ?_
        exact rt_z (r := true) C hP hD hS dX0_readCompared_29 (rw_end h)
  · replace h := it_f (b2i_n c5) h
    refine lv_iconst (v := 0) hx hb dX0_readCompared_8 (by decide) ?_
    exact rt_z (r := false) C hP hD hS dX0_readCompared_9 (rw_end h)
def f_X0_readCompared (N : Nat) (Rk : Nat → Int32 → Mem → Option (Bool × Mem)) (x1 : Int32) (M : Mem) : Option (Bool × Mem) := b_X0_readCompared_0 N Rk x1 M
theorem c_X0_readCompared {l : Launch} {D : va_G} {cy : Nat → ClassId} {ad : Nat → Nat} {zz : (Nat → Nat) × (Nat → Nat)} {Fr Lr : Nat} {Rk : Nat → Int32 → Mem → Option (Bool × Mem)} (hRk : RKok l D cy ad zz Fr Lr Rk) {N : Nat} {x1 : Int32} {M : Mem} {rr : Bool} {M' : Mem} (h : f_X0_readCompared N Rk x1 M = some (rr, M')) : CTi l D cy ad zz 0 82 yX0_readCompared (.code yX0_readCompared cX0_readCompared 3 (some .boolean) :: tb) ({ frames := Fr + 11, cells := 0, slots := 0, locals := Lr + 264 } : Room) [.ref (ad 72), .int x1] M (b2i rr) M' := by
  intro sz
  refine CX.of (by decide +kernel) (fun p e s m args below meth c H ls C hP hD hS hl => ?_) (Nat.le_of_ble_eq_true rfl)
  exact w_X0_readCompared_0 C hRk hP hD hS hl h
def b_X0_readNot_0 (N : Nat) (Rk : Nat → Int32 → Mem → Option (Bool × Mem)) (x1 : Int32) (M : Mem) : Option (Bool × Mem) := (if (FI M 72 4) = (205 : Int32) then (if x1 < (5 : Int32) then (f_X0_advance N M).bind fun M24 => bd2 (Rk 1 (x1 + (1 : Int32)) M24) fun r31 M31 => (if r31 = true then gd (isK (RF M31) 3) ((f_X3_emit (RF M31) (3 : Int32) (0 : Int32) M31).bind fun M45 => some (true, M45)) else some (false, M31)) else some (false, M)) else bd2 (f_X0_readCompared N Rk x1 M) fun r12 M12 => some (r12, M12))
set_option maxHeartbeats 4000000 in
set_option maxRecDepth 100000 in
theorem w_X0_readNot_0 (C : CX p s m args meth c cX0_readNot 2 (some .boolean) RX0 D cy ad zz 0 82 A) {Fr Lr : Nat} {Rk : Nat → Int32 → Mem → Option (Bool × Mem)} (hRk : RKok l D cy ad zz Fr Lr Rk) {N : Nat} {M : Mem} {x1 : Int32} {rr : Bool} {M' : Mem} {H : Heap} {locs : List Loc} (hP : va_P D vwCl (pool cy ad 0 82 M) H) (hD : va_D A (pool cy ad 0 82 M)) (hS : va_S A s.heap H locs) {ls : Array Slot} (hl : lv_has ls 2 [(0, .ref (ad 72)), (1, .int x1)]) (h : b_X0_readNot_0 N Rk x1 M = some (rr, M')) : W p l e ({ frames := Fr + 12, cells := 0, slots := 0, locals := Lr + 288 } : Room) s m args below meth c H locs 0 0 (MQ below (va_Qi (fun (x : Int32) (_ : Unit) => x = b2i rr) (fun _ t => PA D cy ad 0 82 A M' t) A) args s 0 0 A) (F0 m 0 ls []) := by
  obtain ⟨hx, hb, hml, hown, hts, hr, hlk, hK, hN, hA, hX⟩ := id C
  unfold b_X0_readNot_0 at h
  refine lv_aload_n hx hb dX0_readNot_0 rfl (lv_at hl 0 rfl) ?_
  refine gf_0_4 C hP (iL (by decide)) (by decide) wd_272 dX0_readNot_1 ?_
  refine lv_sipush (v := 205) hx hb dX0_readNot_4 (by decide) ?_
  refine lv_icmp_eq (tgt := 16) hx hb dX0_readNot_7 (by decide) (fun c7 => ?_) (fun c7 => ?_)
  · replace h := it_t c7 h
    refine lv_iload_n hx hb dX0_readNot_16 rfl (lv_at hl 1 rfl) ?_
    refine lv_iconst (v := 5) hx hb dX0_readNot_17 (by decide) ?_
    refine lv_icmp_lt (tgt := 23) hx hb dX0_readNot_18 (by decide) (fun c18 => ?_) (fun c18 => ?_)
    · replace h := it_t c18 h
      refine lv_aload_n hx hb dX0_readNot_23 rfl (lv_at hl 0 rfl) ?_
      obtain ⟨M24, g24, h⟩ := bd_of h
      refine call_vV (As := []) (rest := []) C hP hD hS (c_X0_advance g24) (iL (by decide)) ⟨0, _, _, ent_0 (by decide), rfl, rfl⟩ (gV wd_296 wd_298 wd_0 wd_74 wd_299) ev_X0_advance ⟨rfl, rfl⟩ ⟨by dsimp only; omega, by dsimp only; omega⟩ hl.1 rfl (Nat.le_of_ble_eq_true rfl) dX0_readNot_24 (fun H locs hP hD hS => ?_)
      refine lv_aload_n hx hb dX0_readNot_27 rfl (lv_at hl 0 rfl) ?_
      refine lv_iload_n hx hb dX0_readNot_28 rfl (lv_at hl 1 rfl) ?_
      refine lv_iconst (v := 1) hx hb dX0_readNot_29 (by decide) ?_
      refine lv_iadd hx hb dX0_readNot_30 ?_
      obtain ⟨r31, M31, g31, h⟩ := bd2_of h
      refine call_iV (As := [.int (x1 + (1 : Int32))]) (rest := []) C hP hD hS (hRk.2.1 _ _ _ _ g31) (iL (by decide)) ⟨0, _, _, ent_0 (by decide), rfl, rfl⟩ (gV wd_350 wd_352 wd_7 wd_74 wd_353) ev_X0_readNot ⟨rfl, rfl⟩ ⟨by dsimp only; omega, by dsimp only; omega⟩ hl.1 rfl (Nat.le_of_ble_eq_true rfl) dX0_readNot_31 (fun H locs hP hD hS => ?_)
      refine lv_if_ne (tgt := 39) hx hb dX0_readNot_34 (by decide) (fun c34 => ?_) (fun c34 => ?_)
      · replace h := it_t (b2i_1 c34) h
        refine lv_aload_n hx hb dX0_readNot_39 rfl (lv_at hl 0 rfl) ?_
        refine gf_0_6 C hP (iL (by decide)) (by decide) wd_274 dX0_readNot_40 ?_
        refine lv_iconst (v := 3) hx hb dX0_readNot_43 (by decide) ?_
        refine lv_iconst (v := 0) hx hb dX0_readNot_44 (by decide) ?_
        obtain ⟨gk1, h⟩ := gd_of h
        obtain ⟨M45, g45, h⟩ := bd_of h
        refine call_vV (As := [.int (3 : Int32), .int (0 : Int32)]) (rest := []) C hP hD hS (c_X3_emit (isK_of gk1) g45) (p_3 (isK_of gk1)) ⟨3, _, _, ent_3 (isK_of gk1), rfl, rfl⟩ (gV wd_370 wd_371 wd_372 wd_67 wd_373) ev_X3_emit ⟨rfl, rfl⟩ ⟨by dsimp only; omega, by dsimp only; omega⟩ hl.1 rfl (Nat.le_of_ble_eq_true rfl) dX0_readNot_45 (fun H locs hP hD hS => ?_)
        refine lv_iconst (v := 1) hx hb dX0_readNot_48 (by decide) ?_
        exact rt_z (r := true) C hP hD hS dX0_readNot_49 (rw_end h)
      · replace h := it_f (b2i_n c34) h
        refine lv_iconst (v := 0) hx hb dX0_readNot_37 (by decide) ?_
        exact rt_z (r := false) C hP hD hS dX0_readNot_38 (rw_end h)
    · replace h := it_f c18 h
      refine lv_iconst (v := 0) hx hb dX0_readNot_21 (by decide) ?_
      exact rt_z (r := false) C hP hD hS dX0_readNot_22 (rw_end h)
  · replace h := it_f c7 h
    refine lv_aload_n hx hb dX0_readNot_10 rfl (lv_at hl 0 rfl) ?_
    refine lv_iload_n hx hb dX0_readNot_11 rfl (lv_at hl 1 rfl) ?_
    obtain ⟨r12, M12, g12, h⟩ := bd2_of h
    refine call_iV (As := [.int x1]) (rest := []) C hP hD hS (c_X0_readCompared hRk g12) (iL (by decide)) ⟨0, _, _, ent_0 (by decide), rfl, rfl⟩ (gV wd_354 wd_356 wd_8 wd_74 wd_357) ev_X0_readCompared ⟨rfl, rfl⟩ ⟨by dsimp only; omega, by dsimp only; omega⟩ hl.1 rfl (Nat.le_of_ble_eq_true rfl) dX0_readNot_12 (fun H locs hP hD hS => ?_)
    exact rt_z (r := r12) C hP hD hS dX0_readNot_15 (rw_end h)
def f_X0_readNot (N : Nat) (Rk : Nat → Int32 → Mem → Option (Bool × Mem)) (x1 : Int32) (M : Mem) : Option (Bool × Mem) := b_X0_readNot_0 N Rk x1 M
theorem c_X0_readNot {l : Launch} {D : va_G} {cy : Nat → ClassId} {ad : Nat → Nat} {zz : (Nat → Nat) × (Nat → Nat)} {Fr Lr : Nat} {Rk : Nat → Int32 → Mem → Option (Bool × Mem)} (hRk : RKok l D cy ad zz Fr Lr Rk) {N : Nat} {x1 : Int32} {M : Mem} {rr : Bool} {M' : Mem} (h : f_X0_readNot N Rk x1 M = some (rr, M')) : CTi l D cy ad zz 0 82 yX0_readNot (.code yX0_readNot cX0_readNot 2 (some .boolean) :: tb) ({ frames := Fr + 12, cells := 0, slots := 0, locals := Lr + 288 } : Room) [.ref (ad 72), .int x1] M (b2i rr) M' := by
  intro sz
  refine CX.of (by decide +kernel) (fun p e s m args below meth c H ls C hP hD hS hl => ?_) (Nat.le_of_ble_eq_true rfl)
  exact w_X0_readNot_0 C hRk hP hD hS hl h
def b_X0_readBoth_12 (N : Nat) (Rk : Nat → Int32 → Mem → Option (Bool × Mem)) (x1 : Int32) : Nat → Int32 → Mem → Option (Bool × Mem)
  | 0, _, _ => none
  | fu + 1, x2, M => (if (160 : Int32) ≤ x2 then some (true, M) else (if (FI M 72 4) = (204 : Int32) then (f_X0_advance N M).bind fun M30 => bd2 (f_X0_readNot N Rk x1 M30) fun r35 M35 => (if r35 = true then gd (isK (RF M35) 3) ((f_X3_emit (RF M35) (9 : Int32) (0 : Int32) M35).bind fun M50 => b_X0_readBoth_12 N Rk x1 fu (x2 + (1 : Int32)) M50) else some (false, M35)) else some (true, M)))
set_option maxHeartbeats 4000000 in
set_option maxRecDepth 100000 in
theorem w_X0_readBoth_12 (C : CX p s m args meth c cX0_readBoth 3 (some .boolean) RX0 D cy ad zz 0 82 A) {Fr Lr : Nat} {Rk : Nat → Int32 → Mem → Option (Bool × Mem)} (hRk : RKok l D cy ad zz Fr Lr Rk) {N : Nat} {x1 : Int32} {rr : Bool} {M' : Mem}  : ∀ (fu : Nat), ∀ (x2 : Int32), ∀ (M : Mem), ∀ (H : Heap) (locs : List Loc), va_P D vwCl (pool cy ad 0 82 M) H → va_D A (pool cy ad 0 82 M) → va_S A s.heap H locs → ∀ (ls : Array Slot), lv_has ls 3 [(0, .ref (ad 72)), (1, .int x1), (2, .int x2)] → b_X0_readBoth_12 N Rk x1 fu x2 M = some (rr, M') → W p l e ({ frames := Fr + 13, cells := 0, slots := 0, locals := Lr + 312 } : Room) s m args below meth c H locs 0 0 (MQ below (va_Qi (fun (x : Int32) (_ : Unit) => x = b2i rr) (fun _ t => PA D cy ad 0 82 A M' t) A) args s 0 0 A) (F0 m 12 ls []) := by
  obtain ⟨hx, hb, hml, hown, hts, hr, hlk, hK, hN, hA, hX⟩ := id C
  intro fu
  induction fu with
  | zero =>
    intro x2 M H locs hP hD hS ls hl h
    exact no_some (show none = some _ from h)
  | succ fu ih =>
    intro x2 M H locs hP hD hS ls hl h
    rw [b_X0_readBoth_12] at h
    refine lv_iload_n hx hb dX0_readBoth_12 rfl (lv_at hl 2 rfl) ?_
    refine lv_sipush (v := 160) hx hb dX0_readBoth_13 (by decide) ?_
    refine lv_icmp_ge (tgt := 59) hx hb dX0_readBoth_16 (by decide) (fun c16 => ?_) (fun c16 => ?_)
    · replace h := it_t c16 h
      refine lv_iconst (v := 1) hx hb dX0_readBoth_59 (by decide) ?_
      exact rt_z (r := true) C hP hD hS dX0_readBoth_60 (rw_end h)
    · replace h := it_f c16 h
      refine lv_aload_n hx hb dX0_readBoth_19 rfl (lv_at hl 0 rfl) ?_
      refine gf_0_4 C hP (iL (by decide)) (by decide) wd_272 dX0_readBoth_20 ?_
      refine lv_sipush (v := 204) hx hb dX0_readBoth_23 (by decide) ?_
      refine lv_icmp_ne (tgt := 59) hx hb dX0_readBoth_26 (by decide) (fun c26 => ?_) (fun c26 => ?_)
      · replace h := it_f c26 h
        refine lv_iconst (v := 1) hx hb dX0_readBoth_59 (by decide) ?_
        exact rt_z (r := true) C hP hD hS dX0_readBoth_60 (rw_end h)
      · replace h := it_t c26 h
        refine lv_aload_n hx hb dX0_readBoth_29 rfl (lv_at hl 0 rfl) ?_
        obtain ⟨M30, g30, h⟩ := bd_of h
        refine call_vV (As := []) (rest := []) C hP hD hS (c_X0_advance g30) (iL (by decide)) ⟨0, _, _, ent_0 (by decide), rfl, rfl⟩ (gV wd_296 wd_298 wd_0 wd_74 wd_299) ev_X0_advance ⟨rfl, rfl⟩ ⟨by dsimp only; omega, by dsimp only; omega⟩ hl.1 rfl (Nat.le_of_ble_eq_true rfl) dX0_readBoth_30 (fun H locs hP hD hS => ?_)
        refine lv_aload_n hx hb dX0_readBoth_33 rfl (lv_at hl 0 rfl) ?_
        refine lv_iload_n hx hb dX0_readBoth_34 rfl (lv_at hl 1 rfl) ?_
        obtain ⟨r35, M35, g35, h⟩ := bd2_of h
        refine call_iV (As := [.int x1]) (rest := []) C hP hD hS (c_X0_readNot hRk g35) (iL (by decide)) ⟨0, _, _, ent_0 (by decide), rfl, rfl⟩ (gV wd_350 wd_352 wd_7 wd_74 wd_353) ev_X0_readNot ⟨rfl, rfl⟩ ⟨by dsimp only; omega, by dsimp only; omega⟩ hl.1 rfl (Nat.le_of_ble_eq_true rfl) dX0_readBoth_35 (fun H locs hP hD hS => ?_)
        refine lv_if_ne (tgt := 43) hx hb dX0_readBoth_38 (by decide) (fun c38 => ?_) (fun c38 => ?_)
        · replace h := it_t (b2i_1 c38) h
          refine lv_aload_n hx hb dX0_readBoth_43 rfl (lv_at hl 0 rfl) ?_
          refine gf_0_6 C hP (iL (by decide)) (by decide) wd_274 dX0_readBoth_44 ?_
          refine lv_bipush (v := 9) hx hb dX0_readBoth_47 (by decide) ?_
          refine lv_iconst (v := 0) hx hb dX0_readBoth_49 (by decide) ?_
          obtain ⟨gk1, h⟩ := gd_of h
          obtain ⟨M50, g50, h⟩ := bd_of h
          refine call_vV (As := [.int (9 : Int32), .int (0 : Int32)]) (rest := []) C hP hD hS (c_X3_emit (isK_of gk1) g50) (p_3 (isK_of gk1)) ⟨3, _, _, ent_3 (isK_of gk1), rfl, rfl⟩ (gV wd_370 wd_371 wd_372 wd_67 wd_373) ev_X3_emit ⟨rfl, rfl⟩ ⟨by dsimp only; omega, by dsimp only; omega⟩ hl.1 rfl (Nat.le_of_ble_eq_true rfl) dX0_readBoth_50 (fun H locs hP hD hS => ?_)
          refine lv_iinc (v := (x2 + (1 : Int32))) (lv' := [(2, .int (x2 + (1 : Int32))), (0, .ref (ad 72)), (1, .int x1)]) hx hb dX0_readBoth_53 hl (k := 2) rfl rfl (by decide) rfl (fun ls hl => ?_)
          refine lv_goto (tgt := 12) hx hb dX0_readBoth_56 (by decide) ?_
          exact ih _ _ _ _ hP hD hS _ (lv_sub hl [1, 2, 0] rfl) h
        · replace h := it_f (b2i_n c38) h
          refine lv_iconst (v := 0) hx hb dX0_readBoth_41 (by decide) ?_
          exact rt_z (r := false) C hP hD hS dX0_readBoth_42 (rw_end h)
def b_X0_readBoth_0 (N : Nat) (Rk : Nat → Int32 → Mem → Option (Bool × Mem)) (x1 : Int32) (M : Mem) : Option (Bool × Mem) := bd2 (f_X0_readNot N Rk x1 M) fun r2 M2 => (if r2 = true then b_X0_readBoth_12 N Rk x1 N (0 : Int32) M2 else some (false, M2))
set_option maxHeartbeats 4000000 in
set_option maxRecDepth 100000 in
theorem w_X0_readBoth_0 (C : CX p s m args meth c cX0_readBoth 3 (some .boolean) RX0 D cy ad zz 0 82 A) {Fr Lr : Nat} {Rk : Nat → Int32 → Mem → Option (Bool × Mem)} (hRk : RKok l D cy ad zz Fr Lr Rk) {N : Nat} {M : Mem} {x1 : Int32} {rr : Bool} {M' : Mem} {H : Heap} {locs : List Loc} (hP : va_P D vwCl (pool cy ad 0 82 M) H) (hD : va_D A (pool cy ad 0 82 M)) (hS : va_S A s.heap H locs) {ls : Array Slot} (hl : lv_has ls 3 [(0, .ref (ad 72)), (1, .int x1)]) (h : b_X0_readBoth_0 N Rk x1 M = some (rr, M')) : W p l e ({ frames := Fr + 13, cells := 0, slots := 0, locals := Lr + 312 } : Room) s m args below meth c H locs 0 0 (MQ below (va_Qi (fun (x : Int32) (_ : Unit) => x = b2i rr) (fun _ t => PA D cy ad 0 82 A M' t) A) args s 0 0 A) (F0 m 0 ls []) := by
  obtain ⟨hx, hb, hml, hown, hts, hr, hlk, hK, hN, hA, hX⟩ := id C
  unfold b_X0_readBoth_0 at h
  refine lv_aload_n hx hb dX0_readBoth_0 rfl (lv_at hl 0 rfl) ?_
  refine lv_iload_n hx hb dX0_readBoth_1 rfl (lv_at hl 1 rfl) ?_
  obtain ⟨r2, M2, g2, h⟩ := bd2_of h
  refine call_iV (As := [.int x1]) (rest := []) C hP hD hS (c_X0_readNot hRk g2) (iL (by decide)) ⟨0, _, _, ent_0 (by decide), rfl, rfl⟩ (gV wd_350 wd_352 wd_7 wd_74 wd_353) ev_X0_readNot ⟨rfl, rfl⟩ ⟨by dsimp only; omega, by dsimp only; omega⟩ hl.1 rfl (Nat.le_of_ble_eq_true rfl) dX0_readBoth_2 (fun H locs hP hD hS => ?_)
  refine lv_if_ne (tgt := 10) hx hb dX0_readBoth_5 (by decide) (fun c5 => ?_) (fun c5 => ?_)
  · replace h := it_t (b2i_1 c5) h
    refine lv_iconst (v := 0) hx hb dX0_readBoth_10 (by decide) ?_
    refine lv_istore_n (lv' := [(2, .int (0 : Int32)), (0, .ref (ad 72)), (1, .int x1)]) hx hb dX0_readBoth_11 rfl hl (by decide) rfl (fun ls hl => ?_)
    exact w_X0_readBoth_12 C hRk N _ _ _ _ hP hD hS _ (lv_sub hl [1, 2, 0] rfl) h
  · replace h := it_f (b2i_n c5) h
    refine lv_iconst (v := 0) hx hb dX0_readBoth_8 (by decide) ?_
    exact rt_z (r := false) C hP hD hS dX0_readBoth_9 (rw_end h)
def f_X0_readBoth (N : Nat) (Rk : Nat → Int32 → Mem → Option (Bool × Mem)) (x1 : Int32) (M : Mem) : Option (Bool × Mem) := b_X0_readBoth_0 N Rk x1 M
theorem c_X0_readBoth {l : Launch} {D : va_G} {cy : Nat → ClassId} {ad : Nat → Nat} {zz : (Nat → Nat) × (Nat → Nat)} {Fr Lr : Nat} {Rk : Nat → Int32 → Mem → Option (Bool × Mem)} (hRk : RKok l D cy ad zz Fr Lr Rk) {N : Nat} {x1 : Int32} {M : Mem} {rr : Bool} {M' : Mem} (h : f_X0_readBoth N Rk x1 M = some (rr, M')) : CTi l D cy ad zz 0 82 yX0_readBoth (.code yX0_readBoth cX0_readBoth 3 (some .boolean) :: tb) ({ frames := Fr + 13, cells := 0, slots := 0, locals := Lr + 312 } : Room) [.ref (ad 72), .int x1] M (b2i rr) M' := by
  intro sz
  refine CX.of (by decide +kernel) (fun p e s m args below meth c H ls C hP hD hS hl => ?_) (Nat.le_of_ble_eq_true rfl)
  exact w_X0_readBoth_0 C hRk hP hD hS hl h
def b_X0_readEither_12 (N : Nat) (Rk : Nat → Int32 → Mem → Option (Bool × Mem)) (x1 : Int32) : Nat → Int32 → Mem → Option (Bool × Mem)
  | 0, _, _ => none
  | fu + 1, x2, M => (if (160 : Int32) ≤ x2 then some (true, M) else (if (FI M 72 4) = (203 : Int32) then (f_X0_advance N M).bind fun M30 => bd2 (f_X0_readBoth N Rk x1 M30) fun r35 M35 => (if r35 = true then gd (isK (RF M35) 3) ((f_X3_emit (RF M35) (10 : Int32) (0 : Int32) M35).bind fun M50 => b_X0_readEither_12 N Rk x1 fu (x2 + (1 : Int32)) M50) else some (false, M35)) else some (true, M)))
set_option maxHeartbeats 4000000 in
set_option maxRecDepth 100000 in
theorem w_X0_readEither_12 (C : CX p s m args meth c cX0_readEither 3 (some .boolean) RX0 D cy ad zz 0 82 A) {Fr Lr : Nat} {Rk : Nat → Int32 → Mem → Option (Bool × Mem)} (hRk : RKok l D cy ad zz Fr Lr Rk) {N : Nat} {x1 : Int32} {rr : Bool} {M' : Mem}  : ∀ (fu : Nat), ∀ (x2 : Int32), ∀ (M : Mem), ∀ (H : Heap) (locs : List Loc), va_P D vwCl (pool cy ad 0 82 M) H → va_D A (pool cy ad 0 82 M) → va_S A s.heap H locs → ∀ (ls : Array Slot), lv_has ls 3 [(0, .ref (ad 72)), (1, .int x1), (2, .int x2)] → b_X0_readEither_12 N Rk x1 fu x2 M = some (rr, M') → W p l e ({ frames := Fr + 14, cells := 0, slots := 0, locals := Lr + 336 } : Room) s m args below meth c H locs 0 0 (MQ below (va_Qi (fun (x : Int32) (_ : Unit) => x = b2i rr) (fun _ t => PA D cy ad 0 82 A M' t) A) args s 0 0 A) (F0 m 12 ls []) := by
  obtain ⟨hx, hb, hml, hown, hts, hr, hlk, hK, hN, hA, hX⟩ := id C
  intro fu
  induction fu with
  | zero =>
    intro x2 M H locs hP hD hS ls hl h
    exact no_some (show none = some _ from h)
  | succ fu ih =>
    intro x2 M H locs hP hD hS ls hl h
    rw [b_X0_readEither_12] at h
    refine lv_iload_n hx hb dX0_readEither_12 rfl (lv_at hl 2 rfl) ?_
    refine lv_sipush (v := 160) hx hb dX0_readEither_13 (by decide) ?_
    refine lv_icmp_ge (tgt := 59) hx hb dX0_readEither_16 (by decide) (fun c16 => ?_) (fun c16 => ?_)
    · replace h := it_t c16 h
      refine lv_iconst (v := 1) hx hb dX0_readEither_59 (by decide) ?_
      exact rt_z (r := true) C hP hD hS dX0_readEither_60 (rw_end h)
    · replace h := it_f c16 h
      refine lv_aload_n hx hb dX0_readEither_19 rfl (lv_at hl 0 rfl) ?_
      refine gf_0_4 C hP (iL (by decide)) (by decide) wd_272 dX0_readEither_20 ?_
      refine lv_sipush (v := 203) hx hb dX0_readEither_23 (by decide) ?_
      refine lv_icmp_ne (tgt := 59) hx hb dX0_readEither_26 (by decide) (fun c26 => ?_) (fun c26 => ?_)
      · replace h := it_f c26 h
        refine lv_iconst (v := 1) hx hb dX0_readEither_59 (by decide) ?_
        exact rt_z (r := true) C hP hD hS dX0_readEither_60 (rw_end h)
      · replace h := it_t c26 h
        refine lv_aload_n hx hb dX0_readEither_29 rfl (lv_at hl 0 rfl) ?_
        obtain ⟨M30, g30, h⟩ := bd_of h
        refine call_vV (As := []) (rest := []) C hP hD hS (c_X0_advance g30) (iL (by decide)) ⟨0, _, _, ent_0 (by decide), rfl, rfl⟩ (gV wd_296 wd_298 wd_0 wd_74 wd_299) ev_X0_advance ⟨rfl, rfl⟩ ⟨by dsimp only; omega, by dsimp only; omega⟩ hl.1 rfl (Nat.le_of_ble_eq_true rfl) dX0_readEither_30 (fun H locs hP hD hS => ?_)
        refine lv_aload_n hx hb dX0_readEither_33 rfl (lv_at hl 0 rfl) ?_
        refine lv_iload_n hx hb dX0_readEither_34 rfl (lv_at hl 1 rfl) ?_
        obtain ⟨r35, M35, g35, h⟩ := bd2_of h
        refine call_iV (As := [.int x1]) (rest := []) C hP hD hS (c_X0_readBoth hRk g35) (iL (by decide)) ⟨0, _, _, ent_0 (by decide), rfl, rfl⟩ (gV wd_346 wd_348 wd_6 wd_74 wd_349) ev_X0_readBoth ⟨rfl, rfl⟩ ⟨by dsimp only; omega, by dsimp only; omega⟩ hl.1 rfl (Nat.le_of_ble_eq_true rfl) dX0_readEither_35 (fun H locs hP hD hS => ?_)
        refine lv_if_ne (tgt := 43) hx hb dX0_readEither_38 (by decide) (fun c38 => ?_) (fun c38 => ?_)
        · replace h := it_t (b2i_1 c38) h
          refine lv_aload_n hx hb dX0_readEither_43 rfl (lv_at hl 0 rfl) ?_
          refine gf_0_6 C hP (iL (by decide)) (by decide) wd_274 dX0_readEither_44 ?_
          refine lv_bipush (v := 10) hx hb dX0_readEither_47 (by decide) ?_
          refine lv_iconst (v := 0) hx hb dX0_readEither_49 (by decide) ?_
          obtain ⟨gk1, h⟩ := gd_of h
          obtain ⟨M50, g50, h⟩ := bd_of h
          refine call_vV (As := [.int (10 : Int32), .int (0 : Int32)]) (rest := []) C hP hD hS (c_X3_emit (isK_of gk1) g50) (p_3 (isK_of gk1)) ⟨3, _, _, ent_3 (isK_of gk1), rfl, rfl⟩ (gV wd_370 wd_371 wd_372 wd_67 wd_373) ev_X3_emit ⟨rfl, rfl⟩ ⟨by dsimp only; omega, by dsimp only; omega⟩ hl.1 rfl (Nat.le_of_ble_eq_true rfl) dX0_readEither_50 (fun H locs hP hD hS => ?_)
          refine lv_iinc (v := (x2 + (1 : Int32))) (lv' := [(2, .int (x2 + (1 : Int32))), (0, .ref (ad 72)), (1, .int x1)]) hx hb dX0_readEither_53 hl (k := 2) rfl rfl (by decide) rfl (fun ls hl => ?_)
          refine lv_goto (tgt := 12) hx hb dX0_readEither_56 (by decide) ?_
          exact ih _ _ _ _ hP hD hS _ (lv_sub hl [1, 2, 0] rfl) h
        · replace h := it_f (b2i_n c38) h
          refine lv_iconst (v := 0) hx hb dX0_readEither_41 (by decide) ?_
          exact rt_z (r := false) C hP hD hS dX0_readEither_42 (rw_end h)
def b_X0_readEither_0 (N : Nat) (Rk : Nat → Int32 → Mem → Option (Bool × Mem)) (x1 : Int32) (M : Mem) : Option (Bool × Mem) := bd2 (f_X0_readBoth N Rk x1 M) fun r2 M2 => (if r2 = true then b_X0_readEither_12 N Rk x1 N (0 : Int32) M2 else some (false, M2))
set_option maxHeartbeats 4000000 in
set_option maxRecDepth 100000 in
theorem w_X0_readEither_0 (C : CX p s m args meth c cX0_readEither 3 (some .boolean) RX0 D cy ad zz 0 82 A) {Fr Lr : Nat} {Rk : Nat → Int32 → Mem → Option (Bool × Mem)} (hRk : RKok l D cy ad zz Fr Lr Rk) {N : Nat} {M : Mem} {x1 : Int32} {rr : Bool} {M' : Mem} {H : Heap} {locs : List Loc} (hP : va_P D vwCl (pool cy ad 0 82 M) H) (hD : va_D A (pool cy ad 0 82 M)) (hS : va_S A s.heap H locs) {ls : Array Slot} (hl : lv_has ls 3 [(0, .ref (ad 72)), (1, .int x1)]) (h : b_X0_readEither_0 N Rk x1 M = some (rr, M')) : W p l e ({ frames := Fr + 14, cells := 0, slots := 0, locals := Lr + 336 } : Room) s m args below meth c H locs 0 0 (MQ below (va_Qi (fun (x : Int32) (_ : Unit) => x = b2i rr) (fun _ t => PA D cy ad 0 82 A M' t) A) args s 0 0 A) (F0 m 0 ls []) := by
  obtain ⟨hx, hb, hml, hown, hts, hr, hlk, hK, hN, hA, hX⟩ := id C
  unfold b_X0_readEither_0 at h
  refine lv_aload_n hx hb dX0_readEither_0 rfl (lv_at hl 0 rfl) ?_
  refine lv_iload_n hx hb dX0_readEither_1 rfl (lv_at hl 1 rfl) ?_
  obtain ⟨r2, M2, g2, h⟩ := bd2_of h
  refine call_iV (As := [.int x1]) (rest := []) C hP hD hS (c_X0_readBoth hRk g2) (iL (by decide)) ⟨0, _, _, ent_0 (by decide), rfl, rfl⟩ (gV wd_346 wd_348 wd_6 wd_74 wd_349) ev_X0_readBoth ⟨rfl, rfl⟩ ⟨by dsimp only; omega, by dsimp only; omega⟩ hl.1 rfl (Nat.le_of_ble_eq_true rfl) dX0_readEither_2 (fun H locs hP hD hS => ?_)
  refine lv_if_ne (tgt := 10) hx hb dX0_readEither_5 (by decide) (fun c5 => ?_) (fun c5 => ?_)
  · replace h := it_t (b2i_1 c5) h
    refine lv_iconst (v := 0) hx hb dX0_readEither_10 (by decide) ?_
    refine lv_istore_n (lv' := [(2, .int (0 : Int32)), (0, .ref (ad 72)), (1, .int x1)]) hx hb dX0_readEither_11 rfl hl (by decide) rfl (fun ls hl => ?_)
    exact w_X0_readEither_12 C hRk N _ _ _ _ hP hD hS _ (lv_sub hl [1, 2, 0] rfl) h
  · replace h := it_f (b2i_n c5) h
    refine lv_iconst (v := 0) hx hb dX0_readEither_8 (by decide) ?_
    exact rt_z (r := false) C hP hD hS dX0_readEither_9 (rw_end h)
def f_X0_readEither (N : Nat) (Rk : Nat → Int32 → Mem → Option (Bool × Mem)) (x1 : Int32) (M : Mem) : Option (Bool × Mem) := b_X0_readEither_0 N Rk x1 M
theorem c_X0_readEither {l : Launch} {D : va_G} {cy : Nat → ClassId} {ad : Nat → Nat} {zz : (Nat → Nat) × (Nat → Nat)} {Fr Lr : Nat} {Rk : Nat → Int32 → Mem → Option (Bool × Mem)} (hRk : RKok l D cy ad zz Fr Lr Rk) {N : Nat} {x1 : Int32} {M : Mem} {rr : Bool} {M' : Mem} (h : f_X0_readEither N Rk x1 M = some (rr, M')) : CTi l D cy ad zz 0 82 yX0_readEither (.code yX0_readEither cX0_readEither 3 (some .boolean) :: tb) ({ frames := Fr + 14, cells := 0, slots := 0, locals := Lr + 336 } : Room) [.ref (ad 72), .int x1] M (b2i rr) M' := by
  intro sz
  refine CX.of (by decide +kernel) (fun p e s m args below meth c H ls C hP hD hS hl => ?_) (Nat.le_of_ble_eq_true rfl)
  exact w_X0_readEither_0 C hRk hP hD hS hl h
end
def RKd (N : Nat) : Nat → Nat → Int32 → Mem → Option (Bool × Mem)
  | 0, _, _, _ => none
  | d + 1, t, x, M => if t = 0 then f_X0_readEither N (RKd N d) x M else if t = 1 then f_X0_readNot N (RKd N d) x M else f_X0_readOne N (RKd N d) x M
theorem RKd_ok {l : Launch} {D : va_G} {cy : Nat → ClassId} {ad : Nat → Nat} {zz : (Nat → Nat) × (Nat → Nat)} (N : Nat) : ∀ d, RKok l D cy ad zz (7 * d) (168 * d) (RKd N d)
  | 0 => ⟨fun _ _ _ _ h => no_some h, fun _ _ _ _ h => no_some h, fun _ _ _ _ h => no_some h⟩
  | d + 1 => by
    have ih := RKd_ok (l := l) (D := D) (cy := cy) (ad := ad) (zz := zz) N d
    have e1 : 7 * (d + 1) + 7 = 7 * d + 14 := by omega
    have e2 : 7 * (d + 1) + 5 = 7 * d + 12 := by omega
    have e3 : 7 * (d + 1) + 1 = 7 * d + 8 := by omega
    have e4 : 168 * (d + 1) + 168 = 168 * d + 336 := by omega
    have e5 : 168 * (d + 1) + 120 = 168 * d + 288 := by omega
    have e6 : 168 * (d + 1) + 24 = 168 * d + 192 := by omega
    refine ⟨fun x M r M' h => ?_, fun x M r M' h => ?_, fun x M r M' h => ?_⟩
    · rw [e1, e4]; exact c_X0_readEither ih h
    · rw [e2, e5]; exact c_X0_readNot ih h
    · rw [e3, e6]; exact c_X0_readOne ih h
