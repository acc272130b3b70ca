section
variable {p : Program} {l : Launch} {e : Env} {s : State} {m : MethodId} {args : Array Value} {below : List Frame} {meth : Method} {c : Code} {D : va_G} {cy : Nat → ClassId} {ad : Nat → Nat} {zz : (Nat → Nat) × (Nat → Nat)} {A : Nat → Prop}
def b_X0_readAll_80 (N : Nat) (x1 : Int32) (j2 : Nat) (M : Mem) : Option (Int32 × Mem) := some ((FI M 72 3), M)
set_option maxHeartbeats 4000000 in
set_option maxRecDepth 100000 in
theorem w_X0_readAll_80 (C : CX p s m args meth c cX0_readAll 4 (some .int) RX0 D cy ad zz 0 82 A) {N : Nat} {M : Mem} {x1 : Int32} {j2 : Nat} (hk_j2 : kd j2 = 3) {rr : Int32} {M' : Mem} {H : Heap} {locs : List Loc} (hP : va_P D vwCl (pool cy ad 0 82 M) H) (hD : va_D A (pool cy ad 0 82 M)) (hS : va_S A s.heap H locs) {ls : Array Slot} (hl : lv_has ls 4 [(0, .ref (ad 72))]) (h : b_X0_readAll_80 N x1 j2 M = some (rr, M')) : W p l e ({ frames := 71, cells := 0, slots := 0, locals := 1702 } : Room) s m args below meth c H locs 0 0 (MQ below (va_Qi (fun (x : Int32) (_ : Unit) => x = rr) (fun _ t => PA D cy ad 0 82 A M' t) A) args s 0 0 A) (F0 m 80 ls []) := by
  obtain ⟨hx, hb, hml, hown, hts, hr, hlk, hK, hN, hA, hX⟩ := id C
  unfold b_X0_readAll_80 at h
  refine lv_aload_n hx hb dX0_readAll_80 rfl (lv_at hl 0 rfl) ?_
  refine gf_0_3 C hP (iL (by decide)) (by decide) wd_271 dX0_readAll_81 ?_
  exact rt_i (r := (FI M 72 3)) C hP hD hS dX0_readAll_84 (rw_end h)
def b_X0_readAll_101 (N : Nat) (x1 : Int32) (j2 : Nat) (k37 : Int32 → Mem → Option (Int32 × Mem)) (x3 : Int32) (M : Mem) : Option (Int32 × Mem) := (f_X0_advance N M).bind fun M102 => k37 (x3 + (1 : Int32)) M102
set_option maxHeartbeats 4000000 in
set_option maxRecDepth 100000 in
theorem w_X0_readAll_101 (C : CX p s m args meth c cX0_readAll 4 (some .int) RX0 D cy ad zz 0 82 A) {N : Nat} {M : Mem} {x1 : Int32} {j2 : Nat} (hk_j2 : kd j2 = 3) {k37 : Int32 → Mem → Option (Int32 × Mem)} {rr : Int32} {M' : Mem} (hk37 : ∀ (x3 : Int32), ∀ (M : Mem), ∀ (H : Heap) (locs : List Loc), va_P D vwCl (pool cy ad 0 82 M) H → va_D A (pool cy ad 0 82 M) → va_S A s.heap H locs → ∀ (ls : Array Slot), lv_has ls 4 [(0, .ref (ad 72)), (3, .int x3)] → k37 x3 M = some (rr, M') → W p l e ({ frames := 71, cells := 0, slots := 0, locals := 1702 } : Room) s m args below meth c H locs 0 0 (MQ below (va_Qi (fun (x : Int32) (_ : Unit) => x = rr) (fun _ t => PA D cy ad 0 82 A M' t) A) args s 0 0 A) (F0 m 37 ls [])) {x3 : Int32} {H : Heap} {locs : List Loc} (hP : va_P D vwCl (pool cy ad 0 82 M) H) (hD : va_D A (pool cy ad 0 82 M)) (hS : va_S A s.heap H locs) {ls : Array Slot} (hl : lv_has ls 4 [(0, .ref (ad 72)), (3, .int x3)]) (h : b_X0_readAll_101 N x1 j2 k37 x3 M = some (rr, M')) : W p l e ({ frames := 71, cells := 0, slots := 0, locals := 1702 } : Room) s m args below meth c H locs 0 0 (MQ below (va_Qi (fun (x : Int32) (_ : Unit) => x = rr) (fun _ t => PA D cy ad 0 82 A M' t) A) args s 0 0 A) (F0 m 101 ls []) := by
  obtain ⟨hx, hb, hml, hown, hts, hr, hlk, hK, hN, hA, hX⟩ := id C
  unfold b_X0_readAll_101 at h
  refine lv_aload_n hx hb dX0_readAll_101 rfl (lv_at hl 0 rfl) ?_
  obtain ⟨M102, g102, h⟩ := bd_of h
  refine call_vV (As := []) (rest := []) C hP hD hS (c_X0_advance g102) (iL (by decide)) ⟨0, _, _, ent_0 (by decide), rfl, rfl⟩ (gV wd_296 wd_298 wd_0 wd_74 wd_299) ev_X0_advance ⟨rfl, rfl⟩ ⟨Nat.le_of_ble_eq_true rfl, Nat.le_of_ble_eq_true rfl⟩ hl.1 rfl (Nat.le_of_ble_eq_true rfl) dX0_readAll_102 (fun H locs hP hD hS => ?_)
  refine lv_iinc (v := (x3 + (1 : Int32))) (lv' := [(3, .int (x3 + (1 : Int32))), (0, .ref (ad 72))]) hx hb dX0_readAll_105 hl (k := 1) rfl rfl (by decide) rfl (fun ls hl => ?_)
  refine lv_goto (tgt := 37) hx hb dX0_readAll_108 (by decide) ?_
  exact hk37 _ _ _ _ hP hD hS _ (lv_sub hl [1, 0] rfl) h
def b_X0_readAll_37 (N : Nat) (x1 : Int32) (j2 : Nat) : Nat → Int32 → Mem → Option (Int32 × Mem)
  | 0, _, _ => none
  | fu + 1, x3, M => (if (3 : Int32) ≤ x3 then (if (FI M 72 4) = (302 : Int32) then some ((-1 : Int32), M) else some ((FI M 72 3), M)) else (if (FI M 72 4) = ((200 : Int32) + x3) then (f_X0_advance N M).bind fun M60 => bd2 (f_X0_readEither N (RKd N 8) (0 : Int32) M60) fun r65 M65 => (if r65 = true then (if (FI M65 72 4) = (59 : Int32) then gd (isK (RF M65) 3) (gd (isK (RF M65) 3) (gd (inb x3 (len ((RF M65) + 18))) (b_X0_readAll_101 N x1 j2 (b_X0_readAll_37 N x1 j2 fu) x3 (sAI M65 ((RF M65) + 18) x3.toNatClampNeg (FI M65 (RF M65) 4))))) else b_X0_readAll_80 N x1 j2 M65) else b_X0_readAll_80 N x1 j2 M65) else some ((FI M 72 3), M)))
set_option maxHeartbeats 4000000 in
set_option maxRecDepth 100000 in
theorem w_X0_readAll_37 (C : CX p s m args meth c cX0_readAll 4 (some .int) RX0 D cy ad zz 0 82 A) {N : Nat} {x1 : Int32} {j2 : Nat} (hk_j2 : kd j2 = 3) {rr : Int32} {M' : Mem}  : ∀ (fu : Nat), ∀ (x3 : Int32), ∀ (M : Mem), ∀ (H : Heap) (locs : List Loc), va_P D vwCl (pool cy ad 0 82 M) H → va_D A (pool cy ad 0 82 M) → va_S A s.heap H locs → ∀ (ls : Array Slot), lv_has ls 4 [(0, .ref (ad 72)), (3, .int x3)] → b_X0_readAll_37 N x1 j2 fu x3 M = some (rr, M') → W p l e ({ frames := 71, cells := 0, slots := 0, locals := 1702 } : Room) s m args below meth c H locs 0 0 (MQ below (va_Qi (fun (x : Int32) (_ : Unit) => x = rr) (fun _ t => PA D cy ad 0 82 A M' t) A) args s 0 0 A) (F0 m 37 ls []) := by
  obtain ⟨hx, hb, hml, hown, hts, hr, hlk, hK, hN, hA, hX⟩ := id C
  intro fu
  induction fu with
  | zero =>
    intro x3 M H locs hP hD hS ls hl h
    exact no_some (show none = some _ from h)
  | succ fu ih =>
    intro x3 M H locs hP hD hS ls hl h
    rw [b_X0_readAll_37] at h
    refine lv_iload_n hx hb dX0_readAll_37 rfl (lv_at hl 1 rfl) ?_
    refine lv_iconst (v := 3) hx hb dX0_readAll_38 (by decide) ?_
    refine lv_icmp_ge (tgt := 111) hx hb dX0_readAll_39 (by decide) (fun c39 => ?_) (fun c39 => ?_)
    · replace h := it_t c39 h
      refine lv_aload_n hx hb dX0_readAll_111 rfl (lv_at hl 0 rfl) ?_
      refine gf_0_4 C hP (iL (by decide)) (by decide) wd_272 dX0_readAll_112 ?_
      refine lv_sipush (v := 302) hx hb dX0_readAll_115 (by decide) ?_
      refine lv_icmp_ne (tgt := 125) hx hb dX0_readAll_118 (by decide) (fun c118 => ?_) (fun c118 => ?_)
      · replace h := it_f c118 h
        refine lv_aload_n hx hb dX0_readAll_125 rfl (lv_at hl 0 rfl) ?_
        refine gf_0_3 C hP (iL (by decide)) (by decide) wd_271 dX0_readAll_126 ?_
        exact rt_i (r := (FI M 72 3)) C hP hD hS dX0_readAll_129 (rw_end h)
      · replace h := it_t c118 h
        refine lv_iconst (v := -1) hx hb dX0_readAll_121 (by decide) ?_
        refine lv_goto (tgt := 129) hx hb dX0_readAll_122 (by decide) ?_
        exact rt_i (r := (-1 : Int32)) C hP hD hS dX0_readAll_129 (rw_end h)
    · replace h := it_f c39 h
      refine lv_aload_n hx hb dX0_readAll_42 rfl (lv_at hl 0 rfl) ?_
      refine gf_0_4 C hP (iL (by decide)) (by decide) wd_272 dX0_readAll_43 ?_
      refine lv_sipush (v := 200) hx hb dX0_readAll_46 (by decide) ?_
      refine lv_iload_n hx hb dX0_readAll_49 rfl (lv_at hl 1 rfl) ?_
      refine lv_iadd hx hb dX0_readAll_50 ?_
      refine lv_icmp_eq (tgt := 59) hx hb dX0_readAll_51 (by decide) (fun c51 => ?_) (fun c51 => ?_)
      · replace h := it_t c51 h
        refine lv_aload_n hx hb dX0_readAll_59 rfl (lv_at hl 0 rfl) ?_
        obtain ⟨M60, g60, h⟩ := bd_of h
        refine call_vV (As := []) (rest := []) C hP hD hS (c_X0_advance g60) (iL (by decide)) ⟨0, _, _, ent_0 (by decide), rfl, rfl⟩ (gV wd_296 wd_298 wd_0 wd_74 wd_299) ev_X0_advance ⟨rfl, rfl⟩ ⟨Nat.le_of_ble_eq_true rfl, Nat.le_of_ble_eq_true rfl⟩ hl.1 rfl (Nat.le_of_ble_eq_true rfl) dX0_readAll_60 (fun H locs hP hD hS => ?_)
        refine lv_aload_n hx hb dX0_readAll_63 rfl (lv_at hl 0 rfl) ?_
        refine lv_iconst (v := 0) hx hb dX0_readAll_64 (by decide) ?_
        obtain ⟨r65, M65, g65, h⟩ := bd2_of h
        refine call_iV (As := [.int (0 : Int32)]) (rest := []) C hP hD hS (c_X0_readEither (RKd_ok N 8) g65) (iL (by decide)) ⟨0, _, _, ent_0 (by decide), rfl, rfl⟩ (gV wd_342 wd_344 wd_5 wd_74 wd_345) ev_X0_readEither ⟨rfl, rfl⟩ ⟨Nat.le_of_ble_eq_true rfl, Nat.le_of_ble_eq_true rfl⟩ hl.1 rfl (Nat.le_of_ble_eq_true rfl) dX0_readAll_65 (fun H locs hP hD hS => ?_)
        refine lv_if_eq (tgt := 80) hx hb dX0_readAll_68 (by decide) (fun c68 => ?_) (fun c68 => ?_)
        · replace h := it_f (b2i_n c68) h
          exact w_X0_readAll_80 C hk_j2 hP hD hS (lv_sub hl [0] rfl) h
        · replace h := it_t (b2i_1 c68) h
          refine lv_aload_n hx hb dX0_readAll_71 rfl (lv_at hl 0 rfl) ?_
          refine gf_0_4 C hP (iL (by decide)) (by decide) wd_272 dX0_readAll_72 ?_
          refine lv_bipush (v := 59) hx hb dX0_readAll_75 (by decide) ?_
          refine lv_icmp_eq (tgt := 85) hx hb dX0_readAll_77 (by decide) (fun c77 => ?_) (fun c77 => ?_)
          · replace h := it_t c77 h
            refine lv_aload_n hx hb dX0_readAll_85 rfl (lv_at hl 0 rfl) ?_
            refine gf_0_6 C hP (iL (by decide)) (by decide) wd_274 dX0_readAll_86 ?_
            obtain ⟨gk1, h⟩ := gd_of h
            refine gf_3_2 C hP (p_3 (isK_of gk1)) (isK_of gk1) wd_176 dX0_readAll_89 ?_
            refine lv_iload_n hx hb dX0_readAll_92 rfl (lv_at hl 1 rfl) ?_
            refine lv_aload_n hx hb dX0_readAll_93 rfl (lv_at hl 0 rfl) ?_
            refine gf_0_6 C hP (iL (by decide)) (by decide) wd_274 dX0_readAll_94 ?_
            obtain ⟨gk2, h⟩ := gd_of h
            refine gf_3_4 C hP (p_3 (isK_of gk2)) (isK_of gk2) wd_179 dX0_readAll_97 ?_
            obtain ⟨gi3, h⟩ := gd_of h
            refine ia_st C hP hD hS (p_3_2 (isK_of gk1)) (k_3_2 (isK_of gk1)) gi3 dX0_readAll_100 (fun H locs hP hD hS => ?_)
            exact w_X0_readAll_101 C hk_j2 ih hP hD hS hl h
          · replace h := it_f c77 h
            exact w_X0_readAll_80 C hk_j2 hP hD hS (lv_sub hl [0] rfl) h
      · replace h := it_f c51 h
        refine lv_aload_n hx hb dX0_readAll_54 rfl (lv_at hl 0 rfl) ?_
        refine gf_0_3 C hP (iL (by decide)) (by decide) wd_271 dX0_readAll_55 ?_
        exact rt_i (r := (FI M 72 3)) C hP hD hS dX0_readAll_58 (rw_end h)
def b_X0_readAll_31 (N : Nat) (x1 : Int32) (j2 : Nat) (M : Mem) : Option (Int32 × Mem) := (f_X0_advance N M).bind fun M32 => b_X0_readAll_37 N x1 j2 N (0 : Int32) M32
set_option maxHeartbeats 4000000 in
set_option maxRecDepth 100000 in
theorem w_X0_readAll_31 (C : CX p s m args meth c cX0_readAll 4 (some .int) RX0 D cy ad zz 0 82 A) {N : Nat} {M : Mem} {x1 : Int32} {j2 : Nat} (hk_j2 : kd j2 = 3) {rr : Int32} {M' : Mem} {H : Heap} {locs : List Loc} (hP : va_P D vwCl (pool cy ad 0 82 M) H) (hD : va_D A (pool cy ad 0 82 M)) (hS : va_S A s.heap H locs) {ls : Array Slot} (hl : lv_has ls 4 [(0, .ref (ad 72))]) (h : b_X0_readAll_31 N x1 j2 M = some (rr, M')) : W p l e ({ frames := 71, cells := 0, slots := 0, locals := 1702 } : Room) s m args below meth c H locs 0 0 (MQ below (va_Qi (fun (x : Int32) (_ : Unit) => x = rr) (fun _ t => PA D cy ad 0 82 A M' t) A) args s 0 0 A) (F0 m 31 ls []) := by
  obtain ⟨hx, hb, hml, hown, hts, hr, hlk, hK, hN, hA, hX⟩ := id C
  unfold b_X0_readAll_31 at h
  refine lv_aload_n hx hb dX0_readAll_31 rfl (lv_at hl 0 rfl) ?_
  obtain ⟨M32, g32, h⟩ := bd_of h
  refine call_vV (As := []) (rest := []) C hP hD hS (c_X0_advance g32) (iL (by decide)) ⟨0, _, _, ent_0 (by decide), rfl, rfl⟩ (gV wd_296 wd_298 wd_0 wd_74 wd_299) ev_X0_advance ⟨rfl, rfl⟩ ⟨Nat.le_of_ble_eq_true rfl, Nat.le_of_ble_eq_true rfl⟩ hl.1 rfl (Nat.le_of_ble_eq_true rfl) dX0_readAll_32 (fun H locs hP hD hS => ?_)
  refine lv_iconst (v := 0) hx hb dX0_readAll_35 (by decide) ?_
  refine lv_istore_n (lv' := [(3, .int (0 : Int32)), (0, .ref (ad 72))]) hx hb dX0_readAll_36 rfl hl (by decide) rfl (fun ls hl => ?_)
  exact w_X0_readAll_37 C hk_j2 N _ _ _ _ hP hD hS _ (lv_sub hl [1, 0] rfl) h
def b_X0_readAll_23 (N : Nat) (x1 : Int32) (j2 : Nat) (M : Mem) : Option (Int32 × Mem) := gd (isK (RF M) 3) (b_X0_readAll_31 N x1 j2 (sFI M (RF M) 4 (0 : Int32)))
set_option maxHeartbeats 4000000 in
set_option maxRecDepth 100000 in
theorem w_X0_readAll_23 (C : CX p s m args meth c cX0_readAll 4 (some .int) RX0 D cy ad zz 0 82 A) {N : Nat} {M : Mem} {x1 : Int32} {j2 : Nat} (hk_j2 : kd j2 = 3) {rr : Int32} {M' : Mem} {H : Heap} {locs : List Loc} (hP : va_P D vwCl (pool cy ad 0 82 M) H) (hD : va_D A (pool cy ad 0 82 M)) (hS : va_S A s.heap H locs) {ls : Array Slot} (hl : lv_has ls 4 [(0, .ref (ad 72))]) (h : b_X0_readAll_23 N x1 j2 M = some (rr, M')) : W p l e ({ frames := 71, cells := 0, slots := 0, locals := 1702 } : Room) s m args below meth c H locs 0 0 (MQ below (va_Qi (fun (x : Int32) (_ : Unit) => x = rr) (fun _ t => PA D cy ad 0 82 A M' t) A) args s 0 0 A) (F0 m 23 ls []) := by
  obtain ⟨hx, hb, hml, hown, hts, hr, hlk, hK, hN, hA, hX⟩ := id C
  unfold b_X0_readAll_23 at h
  refine lv_aload_n hx hb dX0_readAll_23 rfl (lv_at hl 0 rfl) ?_
  refine gf_0_6 C hP (iL (by decide)) (by decide) wd_274 dX0_readAll_24 ?_
  refine lv_iconst (v := 0) hx hb dX0_readAll_27 (by decide) ?_
  obtain ⟨gk1, h⟩ := gd_of h
  refine pf_3_4 C hP hD hS (p_3 (isK_of gk1)) (isK_of gk1) wd_179 dX0_readAll_28 (fun H locs hP hD hS => ?_)
  exact w_X0_readAll_31 C hk_j2 hP hD hS hl h
def b_X0_readAll_18 (N : Nat) (x1 : Int32) (j2 : Nat) (M : Mem) : Option (Int32 × Mem) := b_X0_readAll_23 N x1 j2 (sRF M j2)
set_option maxHeartbeats 4000000 in
set_option maxRecDepth 100000 in
theorem w_X0_readAll_18 (C : CX p s m args meth c cX0_readAll 4 (some .int) RX0 D cy ad zz 0 82 A) {N : Nat} {M : Mem} {x1 : Int32} {j2 : Nat} (hk_j2 : kd j2 = 3) {rr : Int32} {M' : Mem} {H : Heap} {locs : List Loc} (hP : va_P D vwCl (pool cy ad 0 82 M) H) (hD : va_D A (pool cy ad 0 82 M)) (hS : va_S A s.heap H locs) {ls : Array Slot} (hl : lv_has ls 4 [(0, .ref (ad 72)), (2, .ref (ad j2))]) (h : b_X0_readAll_18 N x1 j2 M = some (rr, M')) : W p l e ({ frames := 71, cells := 0, slots := 0, locals := 1702 } : Room) s m args below meth c H locs 0 0 (MQ below (va_Qi (fun (x : Int32) (_ : Unit) => x = rr) (fun _ t => PA D cy ad 0 82 A M' t) A) args s 0 0 A) (F0 m 18 ls []) := by
  obtain ⟨hx, hb, hml, hown, hts, hr, hlk, hK, hN, hA, hX⟩ := id C
  unfold b_X0_readAll_18 at h
  refine lv_aload_n hx hb dX0_readAll_18 rfl (lv_at hl 0 rfl) ?_
  refine lv_aload_n hx hb dX0_readAll_19 rfl (lv_at hl 1 rfl) ?_
  refine pf_0_6 C hP hD hS (iL (by decide)) wd_274 dX0_readAll_20 (fun H locs hP hD hS => ?_)
  exact w_X0_readAll_23 C hk_j2 hP hD hS (lv_sub hl [0] rfl) h
def b_X0_readAll_13 (N : Nat) (x1 : Int32) (j2 : Nat) (M : Mem) : Option (Int32 × Mem) := b_X0_readAll_18 N x1 j2 (sFI M 72 2 (0 : Int32))
set_option maxHeartbeats 4000000 in
set_option maxRecDepth 100000 in
theorem w_X0_readAll_13 (C : CX p s m args meth c cX0_readAll 4 (some .int) RX0 D cy ad zz 0 82 A) {N : Nat} {M : Mem} {x1 : Int32} {j2 : Nat} (hk_j2 : kd j2 = 3) {rr : Int32} {M' : Mem} {H : Heap} {locs : List Loc} (hP : va_P D vwCl (pool cy ad 0 82 M) H) (hD : va_D A (pool cy ad 0 82 M)) (hS : va_S A s.heap H locs) {ls : Array Slot} (hl : lv_has ls 4 [(0, .ref (ad 72)), (2, .ref (ad j2))]) (h : b_X0_readAll_13 N x1 j2 M = some (rr, M')) : W p l e ({ frames := 71, cells := 0, slots := 0, locals := 1702 } : Room) s m args below meth c H locs 0 0 (MQ below (va_Qi (fun (x : Int32) (_ : Unit) => x = rr) (fun _ t => PA D cy ad 0 82 A M' t) A) args s 0 0 A) (F0 m 13 ls []) := by
  obtain ⟨hx, hb, hml, hown, hts, hr, hlk, hK, hN, hA, hX⟩ := id C
  unfold b_X0_readAll_13 at h
  refine lv_aload_n hx hb dX0_readAll_13 rfl (lv_at hl 0 rfl) ?_
  refine lv_iconst (v := 0) hx hb dX0_readAll_14 (by decide) ?_
  refine pf_0_2 C hP hD hS (iL (by decide)) (by decide) wd_270 dX0_readAll_15 (fun H locs hP hD hS => ?_)
  exact w_X0_readAll_18 C hk_j2 hP hD hS hl h
def b_X0_readAll_0 (N : Nat) (x1 : Int32) (j2 : Nat) (M : Mem) : Option (Int32 × Mem) := b_X0_readAll_13 N x1 j2 (sFI M 72 1 (if x1 < (nI (len 71)) then x1 else (nI (len 71))))
set_option maxHeartbeats 4000000 in
set_option maxRecDepth 100000 in
theorem w_X0_readAll_0 (C : CX p s m args meth c cX0_readAll 4 (some .int) RX0 D cy ad zz 0 82 A) {N : Nat} {M : Mem} {x1 : Int32} {j2 : Nat} (hk_j2 : kd j2 = 3) {rr : Int32} {M' : Mem} {H : Heap} {locs : List Loc} (hP : va_P D vwCl (pool cy ad 0 82 M) H) (hD : va_D A (pool cy ad 0 82 M)) (hS : va_S A s.heap H locs) {ls : Array Slot} (hl : lv_has ls 4 [(0, .ref (ad 72)), (1, .int x1), (2, .ref (ad j2))]) (h : b_X0_readAll_0 N x1 j2 M = some (rr, M')) : W p l e ({ frames := 71, cells := 0, slots := 0, locals := 1702 } : Room) s m args below meth c H locs 0 0 (MQ below (va_Qi (fun (x : Int32) (_ : Unit) => x = rr) (fun _ t => PA D cy ad 0 82 A M' t) A) args s 0 0 A) (F0 m 0 ls []) := by
  obtain ⟨hx, hb, hml, hown, hts, hr, hlk, hK, hN, hA, hX⟩ := id C
  unfold b_X0_readAll_0 at h
  refine lv_aload_n hx hb dX0_readAll_0 rfl (lv_at hl 0 rfl) ?_
  refine lv_aload_n hx hb dX0_readAll_1 rfl (lv_at hl 0 rfl) ?_
  refine gf_0_0 C hP (iL (by decide)) (by decide) wd_268 dX0_readAll_2 ?_
  refine al_7 C hP (iL (by decide)) (by decide) dX0_readAll_5 ?_
  refine lv_iload_n hx hb dX0_readAll_6 rfl (lv_at hl 1 rfl) ?_
  refine va_mmin hx hb (hml.trans hl.1.symm) hown (hts _ wd_295) (hts _ wd_222) (hts _ wd_70) (hts _ wd_223) (Nat.le_of_ble_eq_true rfl) (Nat.le_of_ble_eq_true rfl) (Nat.zero_le _) (Nat.zero_le _) dX0_readAll_7 ?_
  refine pf_0_1 C hP hD hS (iL (by decide)) (by decide) wd_269 dX0_readAll_10 (fun H locs hP hD hS => ?_)
  exact w_X0_readAll_13 C hk_j2 hP hD hS (lv_sub hl [0, 2] rfl) h
def f_X0_readAll (N : Nat) (x1 : Int32) (j2 : Nat) (M : Mem) : Option (Int32 × Mem) := b_X0_readAll_0 N x1 j2 M
theorem c_X0_readAll {l : Launch} {D : va_G} {cy : Nat → ClassId} {ad : Nat → Nat} {zz : (Nat → Nat) × (Nat → Nat)} {N : Nat} {x1 : Int32} {j2 : Nat} (hk_j2 : kd j2 = 3) {M : Mem} {rr : Int32} {M' : Mem} (h : f_X0_readAll N x1 j2 M = some (rr, M')) : CTi l D cy ad zz 0 82 yX0_readAll (.code yX0_readAll cX0_readAll 4 (some .int) :: tb) ({ frames := 71, cells := 0, slots := 0, locals := 1702 } : Room) [.ref (ad 72), .int x1, .ref (ad j2)] M rr M' := by
  intro sz
  refine CX.of (by decide +kernel) (fun p e s m args below meth c H ls C hP hD hS hl => ?_) (Nat.le_of_ble_eq_true rfl)
  exact w_X0_readAll_0 C hk_j2 hP hD hS hl h
theorem ev_X0_readAll : yX0_readAll.cls = RX0 ∧ yX0_readAll.cls ≠ "java/lang/invoke/MethodHandle" ∧ yX0_readAll.cls ≠ "java/lang/invoke/VarHandle" ∧ (parseMethodDescriptor yX0_readAll.desc).map (fun d => d.parameters.length) = some 2 := by decide +kernel
def b_X5_text_67 (N : Nat) (M : Mem) : Option (Int32 × Mem) := some (((FI M 0 8) - (1 : Int32)), M)
set_option maxHeartbeats 4000000 in
set_option maxRecDepth 100000 in
theorem w_X5_text_67 (C : CX p s m args meth c cX5_text 3 (some .int) RX5 D cy ad zz 0 82 A) {N : Nat} {M : Mem} {rr : Int32} {M' : Mem} {H : Heap} {locs : List Loc} (hP : va_P D vwCl (pool cy ad 0 82 M) H) (hD : va_D A (pool cy ad 0 82 M)) (hS : va_S A s.heap H locs) {ls : Array Slot} (hl : lv_has ls 3 [(0, .ref (ad 0))]) (h : b_X5_text_67 N M = some (rr, M')) : W p l e ({ frames := 72, cells := 0, slots := 0, locals := 1725 } : Room) s m args below meth c H locs 0 0 (MQ below (va_Qi (fun (x : Int32) (_ : Unit) => x = rr) (fun _ t => PA D cy ad 0 82 A M' t) A) args s 0 0 A) (F0 m 67 ls []) := by
  obtain ⟨hx, hb, hml, hown, hts, hr, hlk, hK, hN, hA, hX⟩ := id C
  unfold b_X5_text_67 at h
  refine lv_aload_n hx hb dX5_text_67 rfl (lv_at hl 0 rfl) ?_
  refine gf_5_8 C hP (iL (by decide)) (by decide) wd_382 dX5_text_68 ?_
  refine lv_iconst (v := 1) hx hb dX5_text_71 (by decide) ?_
  refine lv_isub hx hb dX5_text_72 ?_
  exact rt_i (r := ((FI M 0 8) - (1 : Int32))) C hP hD hS dX5_text_73 (rw_end h)
def b_X5_text_29 (N : Nat) (x1 : Int32) (M : Mem) : Option (Int32 × Mem) := gd (inb (FI M 0 8) (len 45)) (gd (isK (AR 45 (FI M 0 8).toNatClampNeg) 3) (bd2 (f_X0_readAll N x1 (AR 45 (FI M 0 8).toNatClampNeg) M) fun r43 M43 => (if r43 = (-1 : Int32) then b_X5_text_67 N (sFI M43 0 8 ((FI M43 0 8) + (1 : Int32))) else some (((-100 : Int32) - r43), M43))))
set_option maxHeartbeats 4000000 in
set_option maxRecDepth 100000 in
theorem w_X5_text_29 (C : CX p s m args meth c cX5_text 3 (some .int) RX5 D cy ad zz 0 82 A) {N : Nat} {M : Mem} {rr : Int32} {M' : Mem} {x1 : Int32} {H : Heap} {locs : List Loc} (hP : va_P D vwCl (pool cy ad 0 82 M) H) (hD : va_D A (pool cy ad 0 82 M)) (hS : va_S A s.heap H locs) {ls : Array Slot} (hl : lv_has ls 3 [(0, .ref (ad 0)), (1, .int x1)]) (h : b_X5_text_29 N x1 M = some (rr, M')) : W p l e ({ frames := 72, cells := 0, slots := 0, locals := 1725 } : Room) s m args below meth c H locs 0 0 (MQ below (va_Qi (fun (x : Int32) (_ : Unit) => x = rr) (fun _ t => PA D cy ad 0 82 A M' t) A) args s 0 0 A) (F0 m 29 ls []) := by
  obtain ⟨hx, hb, hml, hown, hts, hr, hlk, hK, hN, hA, hX⟩ := id C
  unfold b_X5_text_29 at h
  refine lv_aload_n hx hb dX5_text_29 rfl (lv_at hl 0 rfl) ?_
  refine gf_5_6 C hP (iL (by decide)) (by decide) wd_380 dX5_text_30 ?_
  refine lv_iload_n hx hb dX5_text_33 rfl (lv_at hl 1 rfl) ?_
  refine lv_aload_n hx hb dX5_text_34 rfl (lv_at hl 0 rfl) ?_
  refine gf_5_4 C hP (iL (by decide)) (by decide) wd_378 dX5_text_35 ?_
  refine lv_aload_n hx hb dX5_text_38 rfl (lv_at hl 0 rfl) ?_
  refine gf_5_8 C hP (iL (by decide)) (by decide) wd_382 dX5_text_39 ?_
  obtain ⟨gi1, h⟩ := gd_of h
  refine aa_11 C hP (iL (by decide)) (by decide) gi1 dX5_text_42 ?_
  obtain ⟨gk2, h⟩ := gd_of h
  obtain ⟨r43, M43, g43, h⟩ := bd2_of h
  refine call_iV (As := [.int x1, .ref (ad (AR 45 (FI M 0 8).toNatClampNeg))]) (rest := []) C hP hD hS (c_X0_readAll (isK_of gk2) g43) (iL (by decide)) ⟨0, _, _, ent_0 (by decide), rfl, rfl⟩ (gV wd_291 wd_292 wd_293 wd_74 wd_294) ev_X0_readAll ⟨rfl, rfl⟩ ⟨Nat.le_of_ble_eq_true rfl, Nat.le_of_ble_eq_true rfl⟩ hl.1 rfl (Nat.le_of_ble_eq_true rfl) dX5_text_43 (fun H locs hP hD hS => ?_)
  refine lv_istore_n (lv' := [(2, .int r43), (0, .ref (ad 0)), (1, .int x1)]) hx hb dX5_text_46 rfl hl (by decide) rfl (fun ls hl => ?_)
  refine lv_iload_n hx hb dX5_text_47 rfl (lv_at hl 0 rfl) ?_
  refine lv_iconst (v := -1) hx hb dX5_text_48 (by decide) ?_
  refine lv_icmp_eq (tgt := 57) hx hb dX5_text_49 (by decide) (fun c49 => ?_) (fun c49 => ?_)
  · replace h := it_t c49 h
    refine lv_aload_n hx hb dX5_text_57 rfl (lv_at hl 1 rfl) ?_
    refine lv_dup hx hb dX5_text_58 rfl ?_
    refine gf_5_8 C hP (iL (by decide)) (by decide) wd_382 dX5_text_59 ?_
    refine lv_iconst (v := 1) hx hb dX5_text_62 (by decide) ?_
    refine lv_iadd hx hb dX5_text_63 ?_
    refine pf_5_8 C hP hD hS (iL (by decide)) (by decide) wd_382 dX5_text_64 (fun H locs hP hD hS => ?_)
    exact w_X5_text_67 C hP hD hS (lv_sub hl [1] rfl) h
  · replace h := it_f c49 h
    refine lv_bipush (v := -100) hx hb dX5_text_52 (by decide) ?_
    refine lv_iload_n hx hb dX5_text_54 rfl (lv_at hl 0 rfl) ?_
    refine lv_isub hx hb dX5_text_55 ?_
    exact rt_i (r := ((-100 : Int32) - r43)) C hP hD hS dX5_text_56 (rw_end h)
def b_X5_text_0 (N : Nat) (M : Mem) : Option (Int32 × Mem) := (if (6 : Int32) ≤ (FI M 0 8) then some ((-4 : Int32), M) else (if 0 ≤ (FI M 0 8) then b_X5_text_29 N (FI M 0 9) (sFI M 0 9 (0 : Int32)) else some ((-4 : Int32), M)))
set_option maxHeartbeats 4000000 in
set_option maxRecDepth 100000 in
theorem w_X5_text_0 (C : CX p s m args meth c cX5_text 3 (some .int) RX5 D cy ad zz 0 82 A) {N : Nat} {M : Mem} {rr : Int32} {M' : Mem} {H : Heap} {locs : List Loc} (hP : va_P D vwCl (pool cy ad 0 82 M) H) (hD : va_D A (pool cy ad 0 82 M)) (hS : va_S A s.heap H locs) {ls : Array Slot} (hl : lv_has ls 3 [(0, .ref (ad 0))]) (h : b_X5_text_0 N M = some (rr, M')) : W p l e ({ frames := 72, cells := 0, slots := 0, locals := 1725 } : Room) s m args below meth c H locs 0 0 (MQ below (va_Qi (fun (x : Int32) (_ : Unit) => x = rr) (fun _ t => PA D cy ad 0 82 A M' t) A) args s 0 0 A) (F0 m 0 ls []) := by
  obtain ⟨hx, hb, hml, hown, hts, hr, hlk, hK, hN, hA, hX⟩ := id C
  unfold b_X5_text_0 at h
  refine lv_aload_n hx hb dX5_text_0 rfl (lv_at hl 0 rfl) ?_
  refine gf_5_8 C hP (iL (by decide)) (by decide) wd_382 dX5_text_1 ?_
  refine lv_bipush (v := 6) hx hb dX5_text_4 (by decide) ?_
  refine lv_icmp_ge (tgt := 16) hx hb dX5_text_6 (by decide) (fun c6 => ?_) (fun c6 => ?_)
  · replace h := it_t c6 h
    refine lv_bipush (v := -4) hx hb dX5_text_16 (by decide) ?_
    exact rt_i (r := (-4 : Int32)) C hP hD hS dX5_text_18 (rw_end h)
  · replace h := it_f c6 h
    refine lv_aload_n hx hb dX5_text_9 rfl (lv_at hl 0 rfl) ?_
    refine gf_5_8 C hP (iL (by decide)) (by decide) wd_382 dX5_text_10 ?_
    refine lv_if_ge (tgt := 19) hx hb dX5_text_13 (by decide) (fun c13 => ?_) (fun c13 => ?_)
    · replace h := it_t c13 h
      refine lv_aload_n hx hb dX5_text_19 rfl (lv_at hl 0 rfl) ?_
      refine gf_5_9 C hP (iL (by decide)) (by decide) wd_383 dX5_text_20 ?_
      refine lv_istore_n (lv' := [(1, .int (FI M 0 9)), (0, .ref (ad 0))]) hx hb dX5_text_23 rfl hl (by decide) rfl (fun ls hl => ?_)
      refine lv_aload_n hx hb dX5_text_24 rfl (lv_at hl 1 rfl) ?_
      refine lv_iconst (v := 0) hx hb dX5_text_25 (by decide) ?_
      refine pf_5_9 C hP hD hS (iL (by decide)) (by decide) wd_383 dX5_text_26 (fun H locs hP hD hS => ?_)
      exact w_X5_text_29 C hP hD hS (lv_sub hl [1, 0] rfl) h
    · replace h := it_f c13 h
      refine lv_bipush (v := -4) hx hb dX5_text_16 (by decide) ?_
      exact rt_i (r := (-4 : Int32)) C hP hD hS dX5_text_18 (rw_end h)
def f_X5_text (N : Nat) (M : Mem) : Option (Int32 × Mem) := b_X5_text_0 N M
theorem c_X5_text {l : Launch} {D : va_G} {cy : Nat → ClassId} {ad : Nat → Nat} {zz : (Nat → Nat) × (Nat → Nat)} {N : Nat} {M : Mem} {rr : Int32} {M' : Mem} (h : f_X5_text N M = some (rr, M')) : CTi l D cy ad zz 0 82 yX5_text (.code yX5_text cX5_text 3 (some .int) :: tb) ({ frames := 72, cells := 0, slots := 0, locals := 1725 } : Room) [.ref (ad 0)] M rr M' := by
  intro sz
  refine CX.of (by decide +kernel) (fun p e s m args below meth c H ls C hP hD hS hl => ?_) (Nat.le_of_ble_eq_true rfl)
  exact w_X5_text_0 C hP hD hS hl h
theorem ev_X5_text : yX5_text.cls = RX5 ∧ yX5_text.cls ≠ "java/lang/invoke/MethodHandle" ∧ yX5_text.cls ≠ "java/lang/invoke/VarHandle" ∧ (parseMethodDescriptor yX5_text.desc).map (fun d => d.parameters.length) = some 0 := by decide +kernel
end
