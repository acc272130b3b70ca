section
variable {p : Program} {l : Launch} {e : Env} {s : State} {m : MethodId} {args : Array Value} {below : List Frame} {meth : Method} {c : Code} {D : va_G} {cy : Nat → ClassId} {ad : Nat → Nat} {zz : (Nat → Nat) × (Nat → Nat)} {A : Nat → Prop}
def b_X6_floods_85 (N : Nat) (x1 : Int32) (M : Mem) : Option (Int32 × Mem) := some ((FI M 100 34), M)
set_option maxHeartbeats 4000000 in
set_option maxRecDepth 100000 in
theorem w_X6_floods_85 (C : CX p s m args meth c cX6_floods 7 (some .int) RX6 D cy ad zz 100 21 A) {N : Nat} {M : Mem} {x1 : Int32} {rr : Int32} {M' : Mem} {H : Heap} {locs : List Loc} (hP : va_P D vwCl (pool cy ad 100 21 M) H) (hD : va_D A (pool cy ad 100 21 M)) (hS : va_S A s.heap H locs) {ls : Array Slot} (hl : lv_has ls 7 [(0, .ref (ad 100))]) (h : b_X6_floods_85 N x1 M = some (rr, M')) : W p l e ({ frames := 5, cells := 0, slots := 0, locals := 118 } : Room) s m args below meth c H locs 0 0 (MQ below (va_Qi (fun (x : Int32) (_ : Unit) => x = rr) (fun _ t => PA D cy ad 100 21 A M' t) A) args s 0 0 A) (F0 m 85 ls []) := by
  obtain ⟨hx, hb, hml, hown, hts, hr, hlk, hK, hN, hA, hX⟩ := id C
  unfold b_X6_floods_85 at h
  refine lv_aload_n hx hb dX6_floods_85 rfl (lv_at hl 0 rfl) ?_
  refine gf_6_34 C hP (iL (by decide)) (by decide) wd_916 dX6_floods_86 ?_
  exact rt_i (r := (FI M 100 34)) C hP hD hS dX6_floods_89 (rw_end h)
def b_X6_floods_75 (N : Nat) (x1 : Int32) (y4 : Int64) (M : Mem) : Option (Int32 × Mem) := (f_X6_lays N M).bind fun M76 => b_X6_floods_85 N x1 (sFJ M76 100 6 y4)
set_option maxHeartbeats 4000000 in
set_option maxRecDepth 100000 in
theorem w_X6_floods_75 (C : CX p s m args meth c cX6_floods 7 (some .int) RX6 D cy ad zz 100 21 A) {N : Nat} {M : Mem} {x1 : Int32} {rr : Int32} {M' : Mem} {y4 : Int64} {H : Heap} {locs : List Loc} (hP : va_P D vwCl (pool cy ad 100 21 M) H) (hD : va_D A (pool cy ad 100 21 M)) (hS : va_S A s.heap H locs) {ls : Array Slot} (hl : lv_has ls 7 [(0, .ref (ad 100)), (4, .long y4)]) (h : b_X6_floods_75 N x1 y4 M = some (rr, M')) : W p l e ({ frames := 5, cells := 0, slots := 0, locals := 118 } : Room) s m args below meth c H locs 0 0 (MQ below (va_Qi (fun (x : Int32) (_ : Unit) => x = rr) (fun _ t => PA D cy ad 100 21 A M' t) A) args s 0 0 A) (F0 m 75 ls []) := by
  obtain ⟨hx, hb, hml, hown, hts, hr, hlk, hK, hN, hA, hX⟩ := id C
  unfold b_X6_floods_75 at h
  refine lv_aload_n hx hb dX6_floods_75 rfl (lv_at hl 0 rfl) ?_
  obtain ⟨M76, g76, h⟩ := bd_of h
  refine call_vV (As := []) (rest := []) C hP hD hS (c_X6_lays g76) (iL (by decide)) ⟨6, _, _, ent_6 (by decide), rfl, rfl⟩ (gV wd_1124 wd_1126 wd_52 wd_75 wd_1127) ev_X6_lays ⟨rfl, rfl⟩ ⟨Nat.le_of_ble_eq_true rfl, Nat.le_of_ble_eq_true rfl⟩ hl.1 rfl (Nat.le_of_ble_eq_true rfl) dX6_floods_76 (fun H locs hP hD hS => ?_)
  refine lv_aload_n hx hb dX6_floods_79 rfl (lv_at hl 0 rfl) ?_
  refine lv_lload hx hb dX6_floods_80 (lv_at hl 1 rfl) ?_
  refine pf_6_6 C hP hD hS (iL (by decide)) (by decide) wd_888 dX6_floods_82 (fun H locs hP hD hS => ?_)
  exact w_X6_floods_85 C hP hD hS (lv_sub hl [0] rfl) h
def b_X6_floods_57 (N : Nat) (x1 : Int32) (k23 : Int64 → Int64 → Int32 → Mem → Option (Int32 × Mem)) (y2 : Int64) (y4 : Int64) (x6 : Int32) (M : Mem) : Option (Int32 × Mem) := (f_X6_nightOf N M).bind fun M58 => k23 y2 y4 (x6 + (1 : Int32)) M58
set_option maxHeartbeats 4000000 in
set_option maxRecDepth 100000 in
theorem w_X6_floods_57 (C : CX p s m args meth c cX6_floods 7 (some .int) RX6 D cy ad zz 100 21 A) {N : Nat} {M : Mem} {x1 : Int32} {k23 : Int64 → Int64 → Int32 → Mem → Option (Int32 × Mem)} {rr : Int32} {M' : Mem} (hk23 : ∀ (y2 : Int64), ∀ (y4 : Int64), ∀ (x6 : Int32), ∀ (M : Mem), ∀ (H : Heap) (locs : List Loc), va_P D vwCl (pool cy ad 100 21 M) H → va_D A (pool cy ad 100 21 M) → va_S A s.heap H locs → ∀ (ls : Array Slot), lv_has ls 7 [(0, .ref (ad 100)), (2, .long y2), (4, .long y4), (6, .int x6)] → k23 y2 y4 x6 M = some (rr, M') → W p l e ({ frames := 5, cells := 0, slots := 0, locals := 118 } : Room) s m args below meth c H locs 0 0 (MQ below (va_Qi (fun (x : Int32) (_ : Unit) => x = rr) (fun _ t => PA D cy ad 100 21 A M' t) A) args s 0 0 A) (F0 m 23 ls [])) {y2 : Int64} {y4 : Int64} {x6 : Int32} {H : Heap} {locs : List Loc} (hP : va_P D vwCl (pool cy ad 100 21 M) H) (hD : va_D A (pool cy ad 100 21 M)) (hS : va_S A s.heap H locs) {ls : Array Slot} (hl : lv_has ls 7 [(0, .ref (ad 100)), (2, .long y2), (4, .long y4), (6, .int x6)]) (h : b_X6_floods_57 N x1 k23 y2 y4 x6 M = some (rr, M')) : W p l e ({ frames := 5, cells := 0, slots := 0, locals := 118 } : Room) s m args below meth c H locs 0 0 (MQ below (va_Qi (fun (x : Int32) (_ : Unit) => x = rr) (fun _ t => PA D cy ad 100 21 A M' t) A) args s 0 0 A) (F0 m 57 ls []) := by
  obtain ⟨hx, hb, hml, hown, hts, hr, hlk, hK, hN, hA, hX⟩ := id C
  unfold b_X6_floods_57 at h
  refine lv_aload_n hx hb dX6_floods_57 rfl (lv_at hl 0 rfl) ?_
  obtain ⟨M58, g58, h⟩ := bd_of h
  refine call_vV (As := []) (rest := []) C hP hD hS (c_X6_nightOf g58) (iL (by decide)) ⟨6, _, _, ent_6 (by decide), rfl, rfl⟩ (gV wd_1088 wd_1090 wd_45 wd_75 wd_1091) ev_X6_nightOf ⟨rfl, rfl⟩ ⟨Nat.le_of_ble_eq_true rfl, Nat.le_of_ble_eq_true rfl⟩ hl.1 rfl (Nat.le_of_ble_eq_true rfl) dX6_floods_58 (fun H locs hP hD hS => ?_)
  refine lv_iinc (v := (x6 + (1 : Int32))) (lv' := [(6, .int (x6 + (1 : Int32))), (0, .ref (ad 100)), (2, .long y2), (4, .long y4)]) hx hb dX6_floods_61 hl (k := 3) rfl rfl (by decide) rfl (fun ls hl => ?_)
  refine lv_goto (tgt := 23) hx hb dX6_floods_64 (by decide) ?_
  exact hk23 _ _ _ _ _ _ hP hD hS _ (lv_sub hl [1, 2, 3, 0] rfl) h
def b_X6_floods_40 (N : Nat) (x1 : Int32) (k23 : Int64 → Int64 → Int32 → Mem → Option (Int32 × Mem)) (y2 : Int64) (y4 : Int64) (x6 : Int32) (M : Mem) : Option (Int32 × Mem) := b_X6_floods_57 N x1 k23 y2 y4 x6 (sFJ M 100 6 ((FJ M 100 6) ^^^ ((1 : Int64) <<< (((y2 - y2 / (64 : Int64) * (64 : Int64)).toInt32).toInt64 &&& 63))))
set_option maxHeartbeats 4000000 in
set_option maxRecDepth 100000 in
theorem w_X6_floods_40 (C : CX p s m args meth c cX6_floods 7 (some .int) RX6 D cy ad zz 100 21 A) {N : Nat} {M : Mem} {x1 : Int32} {k23 : Int64 → Int64 → Int32 → Mem → Option (Int32 × Mem)} {rr : Int32} {M' : Mem} (hk23 : ∀ (y2 : Int64), ∀ (y4 : Int64), ∀ (x6 : Int32), ∀ (M : Mem), ∀ (H : Heap) (locs : List Loc), va_P D vwCl (pool cy ad 100 21 M) H → va_D A (pool cy ad 100 21 M) → va_S A s.heap H locs → ∀ (ls : Array Slot), lv_has ls 7 [(0, .ref (ad 100)), (2, .long y2), (4, .long y4), (6, .int x6)] → k23 y2 y4 x6 M = some (rr, M') → W p l e ({ frames := 5, cells := 0, slots := 0, locals := 118 } : Room) s m args below meth c H locs 0 0 (MQ below (va_Qi (fun (x : Int32) (_ : Unit) => x = rr) (fun _ t => PA D cy ad 100 21 A M' t) A) args s 0 0 A) (F0 m 23 ls [])) {y2 : Int64} {y4 : Int64} {x6 : Int32} {H : Heap} {locs : List Loc} (hP : va_P D vwCl (pool cy ad 100 21 M) H) (hD : va_D A (pool cy ad 100 21 M)) (hS : va_S A s.heap H locs) {ls : Array Slot} (hl : lv_has ls 7 [(0, .ref (ad 100)), (2, .long y2), (4, .long y4), (6, .int x6)]) (h : b_X6_floods_40 N x1 k23 y2 y4 x6 M = some (rr, M')) : W p l e ({ frames := 5, cells := 0, slots := 0, locals := 118 } : Room) s m args below meth c H locs 0 0 (MQ below (va_Qi (fun (x : Int32) (_ : Unit) => x = rr) (fun _ t => PA D cy ad 100 21 A M' t) A) args s 0 0 A) (F0 m 40 ls []) := by
  obtain ⟨hx, hb, hml, hown, hts, hr, hlk, hK, hN, hA, hX⟩ := id C
  unfold b_X6_floods_40 at h
  refine lv_aload_n hx hb dX6_floods_40 rfl (lv_at hl 0 rfl) ?_
  refine lv_dup hx hb dX6_floods_41 rfl ?_
  refine gf_6_6 C hP (iL (by decide)) (by decide) wd_888 dX6_floods_42 ?_
  refine lv_lconst (v := 1) hx hb dX6_floods_45 (by decide) ?_
  refine lv_lload_n hx hb dX6_floods_46 rfl (lv_at hl 1 rfl) ?_
  refine lv_ldc2 hx hb hown (hts _ wd_1188) dX6_floods_47 ?_
  refine lv_lrem hx hb dX6_floods_50 (by decide) ?_
  refine lv_l2i (v := ((y2 - y2 / (64 : Int64) * (64 : Int64)).toInt32)) hx hb dX6_floods_51 rfl ?_
  refine lv_lshl (v := ((1 : Int64) <<< (((y2 - y2 / (64 : Int64) * (64 : Int64)).toInt32).toInt64 &&& 63))) hx hb dX6_floods_52 rfl ?_
  refine lv_lxor hx hb dX6_floods_53 ?_
  refine pf_6_6 C hP hD hS (iL (by decide)) (by decide) wd_888 dX6_floods_54 (fun H locs hP hD hS => ?_)
  exact w_X6_floods_57 C hk23 hP hD hS hl h
def b_X6_floods_23 (N : Nat) (x1 : Int32) : Nat → Int64 → Int64 → Int32 → Mem → Option (Int32 × Mem)
  | 0, _, _, _, _ => none
  | fu + 1, y2, y4, x6, M => (if (8 : Int32) ≤ x6 then (f_X6_twosNow N M).bind fun r69 => b_X6_floods_75 N x1 y4 (sFI M 100 36 r69) else b_X6_floods_40 N x1 (b_X6_floods_23 N x1 fu) ((y2 * (48271 : Int64)) - (y2 * (48271 : Int64)) / (2147483647 : Int64) * (2147483647 : Int64)) y4 x6 M)
set_option maxHeartbeats 4000000 in
set_option maxRecDepth 100000 in
theorem w_X6_floods_23 (C : CX p s m args meth c cX6_floods 7 (some .int) RX6 D cy ad zz 100 21 A) {N : Nat} {x1 : Int32} {rr : Int32} {M' : Mem}  : ∀ (fu : Nat), ∀ (y2 : Int64), ∀ (y4 : Int64), ∀ (x6 : Int32), ∀ (M : Mem), ∀ (H : Heap) (locs : List Loc), va_P D vwCl (pool cy ad 100 21 M) H → va_D A (pool cy ad 100 21 M) → va_S A s.heap H locs → ∀ (ls : Array Slot), lv_has ls 7 [(0, .ref (ad 100)), (2, .long y2), (4, .long y4), (6, .int x6)] → b_X6_floods_23 N x1 fu y2 y4 x6 M = some (rr, M') → W p l e ({ frames := 5, cells := 0, slots := 0, locals := 118 } : Room) s m args below meth c H locs 0 0 (MQ below (va_Qi (fun (x : Int32) (_ : Unit) => x = rr) (fun _ t => PA D cy ad 100 21 A M' t) A) args s 0 0 A) (F0 m 23 ls []) := by
  obtain ⟨hx, hb, hml, hown, hts, hr, hlk, hK, hN, hA, hX⟩ := id C
  intro fu
  induction fu with
  | zero =>
    intro y2 y4 x6 M H locs hP hD hS ls hl h
    exact no_some (show none = some _ from h)
  | succ fu ih =>
    intro y2 y4 x6 M H locs hP hD hS ls hl h
    rw [b_X6_floods_23] at h
    refine lv_iload hx hb dX6_floods_23 (lv_at hl 3 rfl) ?_
    refine lv_bipush (v := 8) hx hb dX6_floods_25 (by decide) ?_
    refine lv_icmp_ge (tgt := 67) hx hb dX6_floods_27 (by decide) (fun c27 => ?_) (fun c27 => ?_)
    · replace h := it_t c27 h
      refine lv_aload_n hx hb dX6_floods_67 rfl (lv_at hl 0 rfl) ?_
      refine lv_aload_n hx hb dX6_floods_68 rfl (lv_at hl 0 rfl) ?_
      obtain ⟨r69, g69, h⟩ := bd_of h
      refine call_iV (As := []) (rest := [.ref (ad 100)]) C hP hD hS (c_X6_twosNow g69) (iL (by decide)) ⟨6, _, _, ent_6 (by decide), rfl, rfl⟩ (gV wd_1120 wd_1122 wd_51 wd_75 wd_1123) ev_X6_twosNow ⟨rfl, rfl⟩ ⟨Nat.le_of_ble_eq_true rfl, Nat.le_of_ble_eq_true rfl⟩ hl.1 rfl (Nat.le_of_ble_eq_true rfl) dX6_floods_69 (fun H locs hP hD hS => ?_)
      refine pf_6_36 C hP hD hS (iL (by decide)) (by decide) wd_918 dX6_floods_72 (fun H locs hP hD hS => ?_)
      exact w_X6_floods_75 C hP hD hS (lv_sub hl [0, 2] rfl) h
    · replace h := it_f c27 h
      refine lv_lload_n hx hb dX6_floods_30 rfl (lv_at hl 1 rfl) ?_
      refine lv_ldc2 hx hb hown (hts _ wd_1241) dX6_floods_31 ?_
      refine lv_lmul hx hb dX6_floods_34 ?_
      refine lv_ldc2 hx hb hown (hts _ wd_1242) dX6_floods_35 ?_
      refine lv_lrem hx hb dX6_floods_38 (by decide) ?_
      refine lv_lstore_n (lv' := [(2, .long ((y2 * (48271 : Int64)) - (y2 * (48271 : Int64)) / (2147483647 : Int64) * (2147483647 : Int64))), (0, .ref (ad 100)), (4, .long y4), (6, .int x6)]) hx hb dX6_floods_39 rfl hl (by decide) rfl (fun ls hl => ?_)
      exact w_X6_floods_40 C ih hP hD hS (lv_sub hl [1, 0, 2, 3] rfl) h
def b_X6_floods_20 (N : Nat) (x1 : Int32) (y2 : Int64) (y4 : Int64) (M : Mem) : Option (Int32 × Mem) := b_X6_floods_23 N x1 N y2 y4 (0 : Int32) M
set_option maxHeartbeats 4000000 in
set_option maxRecDepth 100000 in
theorem w_X6_floods_20 (C : CX p s m args meth c cX6_floods 7 (some .int) RX6 D cy ad zz 100 21 A) {N : Nat} {M : Mem} {x1 : Int32} {rr : Int32} {M' : Mem} {y2 : Int64} {y4 : Int64} {H : Heap} {locs : List Loc} (hP : va_P D vwCl (pool cy ad 100 21 M) H) (hD : va_D A (pool cy ad 100 21 M)) (hS : va_S A s.heap H locs) {ls : Array Slot} (hl : lv_has ls 7 [(0, .ref (ad 100)), (2, .long y2), (4, .long y4)]) (h : b_X6_floods_20 N x1 y2 y4 M = some (rr, M')) : W p l e ({ frames := 5, cells := 0, slots := 0, locals := 118 } : Room) s m args below meth c H locs 0 0 (MQ below (va_Qi (fun (x : Int32) (_ : Unit) => x = rr) (fun _ t => PA D cy ad 100 21 A M' t) A) args s 0 0 A) (F0 m 20 ls []) := by
  obtain ⟨hx, hb, hml, hown, hts, hr, hlk, hK, hN, hA, hX⟩ := id C
  unfold b_X6_floods_20 at h
  refine lv_iconst (v := 0) hx hb dX6_floods_20 (by decide) ?_
  refine lv_istore (lv' := [(6, .int (0 : Int32)), (0, .ref (ad 100)), (2, .long y2), (4, .long y4)]) hx hb dX6_floods_21 hl (by decide) rfl (fun ls hl => ?_)
  exact w_X6_floods_23 C N _ _ _ _ _ _ hP hD hS _ (lv_sub hl [1, 2, 3, 0] rfl) h
def b_X6_floods_0 (N : Nat) (x1 : Int32) (M : Mem) : Option (Int32 × Mem) := (f_X6_keeps N M).bind fun M12 => b_X6_floods_20 N x1 ((x1.toInt64) + (1 : Int64)) (FJ M 100 6) (sFI M12 100 34 (0 : Int32))
set_option maxHeartbeats 4000000 in
set_option maxRecDepth 100000 in
theorem w_X6_floods_0 (C : CX p s m args meth c cX6_floods 7 (some .int) RX6 D cy ad zz 100 21 A) {N : Nat} {M : Mem} {x1 : Int32} {rr : Int32} {M' : Mem} {H : Heap} {locs : List Loc} (hP : va_P D vwCl (pool cy ad 100 21 M) H) (hD : va_D A (pool cy ad 100 21 M)) (hS : va_S A s.heap H locs) {ls : Array Slot} (hl : lv_has ls 7 [(0, .ref (ad 100)), (1, .int x1)]) (h : b_X6_floods_0 N x1 M = some (rr, M')) : W p l e ({ frames := 5, cells := 0, slots := 0, locals := 118 } : Room) s m args below meth c H locs 0 0 (MQ below (va_Qi (fun (x : Int32) (_ : Unit) => x = rr) (fun _ t => PA D cy ad 100 21 A M' t) A) args s 0 0 A) (F0 m 0 ls []) := by
  obtain ⟨hx, hb, hml, hown, hts, hr, hlk, hK, hN, hA, hX⟩ := id C
  unfold b_X6_floods_0 at h
  refine lv_iload_n hx hb dX6_floods_0 rfl (lv_at hl 1 rfl) ?_
  refine lv_i2l (v := (x1.toInt64)) hx hb dX6_floods_1 rfl ?_
  refine lv_lconst (v := 1) hx hb dX6_floods_2 (by decide) ?_
  refine lv_ladd hx hb dX6_floods_3 ?_
  refine lv_lstore_n (lv' := [(2, .long ((x1.toInt64) + (1 : Int64))), (0, .ref (ad 100)), (1, .int x1)]) hx hb dX6_floods_4 rfl hl (by decide) rfl (fun ls hl => ?_)
  refine lv_aload_n hx hb dX6_floods_5 rfl (lv_at hl 1 rfl) ?_
  refine gf_6_6 C hP (iL (by decide)) (by decide) wd_888 dX6_floods_6 ?_
  refine lv_lstore (lv' := [(4, .long (FJ M 100 6)), (2, .long ((x1.toInt64) + (1 : Int64))), (0, .ref (ad 100)), (1, .int x1)]) hx hb dX6_floods_9 hl (by decide) rfl (fun ls hl => ?_)
  refine lv_aload_n hx hb dX6_floods_11 rfl (lv_at hl 2 rfl) ?_
  obtain ⟨M12, g12, h⟩ := bd_of h
  refine call_vV (As := []) (rest := []) C hP hD hS (c_X6_keeps g12) (iL (by decide)) ⟨6, _, _, ent_6 (by decide), rfl, rfl⟩ (gV wd_1104 wd_1106 wd_47 wd_75 wd_1107) ev_X6_keeps ⟨rfl, rfl⟩ ⟨Nat.le_of_ble_eq_true rfl, Nat.le_of_ble_eq_true rfl⟩ hl.1 rfl (Nat.le_of_ble_eq_true rfl) dX6_floods_12 (fun H locs hP hD hS => ?_)
  refine lv_aload_n hx hb dX6_floods_15 rfl (lv_at hl 2 rfl) ?_
  refine lv_iconst (v := 0) hx hb dX6_floods_16 (by decide) ?_
  refine pf_6_34 C hP hD hS (iL (by decide)) (by decide) wd_916 dX6_floods_17 (fun H locs hP hD hS => ?_)
  exact w_X6_floods_20 C hP hD hS (lv_sub hl [2, 1, 0] rfl) h
def f_X6_floods (N : Nat) (x1 : Int32) (M : Mem) : Option (Int32 × Mem) := b_X6_floods_0 N x1 M
theorem c_X6_floods {l : Launch} {D : va_G} {cy : Nat → ClassId} {ad : Nat → Nat} {zz : (Nat → Nat) × (Nat → Nat)} {N : Nat} {x1 : Int32} {M : Mem} {rr : Int32} {M' : Mem} (h : f_X6_floods N x1 M = some (rr, M')) : CTi l D cy ad zz 100 21 yX6_floods (.code yX6_floods cX6_floods 7 (some .int) :: tb) ({ frames := 5, cells := 0, slots := 0, locals := 118 } : Room) [.ref (ad 100), .int x1] M rr M' := by
  intro sz
  refine CX.of (by decide +kernel) (fun p e s m args below meth c H ls C hP hD hS hl => ?_) (Nat.le_of_ble_eq_true rfl)
  exact w_X6_floods_0 C hP hD hS hl h
theorem ev_X6_floods : yX6_floods.cls = RX6 ∧ yX6_floods.cls ≠ "java/lang/invoke/MethodHandle" ∧ yX6_floods.cls ≠ "java/lang/invoke/VarHandle" ∧ (parseMethodDescriptor yX6_floods.desc).map (fun d => d.parameters.length) = some 1 := by decide +kernel
def b_X6_drawn_0 (N : Nat) (x1 : Int32) (x2 : Int32) (M : Mem) : Option (Int32 × Mem) := (f_X6_in x1 (0 : Int32) (99999 : Int32) M).bind fun r5 => (if r5 = true then (f_X6_in x2 (0 : Int32) (1 : Int32) M).bind fun r14 => (if r14 = true then bd2 (f_X6_floods N x1 M) fun r25 M25 => (if x2 = 0 then some (r25, M25) else some ((FI M25 100 36), M25)) else some ((-2 : Int32), M)) else some ((-2 : Int32), M))
set_option maxHeartbeats 4000000 in
set_option maxRecDepth 100000 in
theorem w_X6_drawn_0 (C : CX p s m args meth c cX6_drawn 4 (some .int) RX6 D cy ad zz 100 21 A) {N : Nat} {M : Mem} {x1 : Int32} {x2 : Int32} {rr : Int32} {M' : Mem} {H : Heap} {locs : List Loc} (hP : va_P D vwCl (pool cy ad 100 21 M) H) (hD : va_D A (pool cy ad 100 21 M)) (hS : va_S A s.heap H locs) {ls : Array Slot} (hl : lv_has ls 4 [(0, .ref (ad 100)), (1, .int x1), (2, .int x2)]) (h : b_X6_drawn_0 N x1 x2 M = some (rr, M')) : W p l e ({ frames := 6, cells := 0, slots := 0, locals := 144 } : Room) s m args below meth c H locs 0 0 (MQ below (va_Qi (fun (x : Int32) (_ : Unit) => x = rr) (fun _ t => PA D cy ad 100 21 A M' t) A) args s 0 0 A) (F0 m 0 ls []) := by
  obtain ⟨hx, hb, hml, hown, hts, hr, hlk, hK, hN, hA, hX⟩ := id C
  unfold b_X6_drawn_0 at h
  refine lv_iload_n hx hb dX6_drawn_0 rfl (lv_at hl 1 rfl) ?_
  refine lv_iconst (v := 0) hx hb dX6_drawn_1 (by decide) ?_
  refine lv_ldcw hx hb hown (hts _ wd_1236) dX6_drawn_2 ?_
  obtain ⟨r5, g5, h⟩ := bd_of h
  refine call_iS (As := [.int x1, .int (0 : Int32), .int (99999 : Int32)]) (rest := []) C hP hD hS (c_X6_in g5) (gS wd_843 wd_844 wd_75 wd_845) es_X6_in ⟨rfl, rfl⟩ ⟨Nat.le_of_ble_eq_true rfl, Nat.le_of_ble_eq_true rfl⟩ hl.1 rfl (Nat.le_of_ble_eq_true rfl) dX6_drawn_5 (fun H locs hP hD hS => ?_)
  refine lv_if_eq (tgt := 20) hx hb dX6_drawn_8 (by decide) (fun c8 => ?_) (fun c8 => ?_)
  · replace h := it_f (b2i_n c8) h
    refine lv_bipush (v := -2) hx hb dX6_drawn_20 (by decide) ?_
    exact rt_i (r := (-2 : Int32)) C hP hD hS dX6_drawn_22 (rw_end h)
  · replace h := it_t (b2i_1 c8) h
    refine lv_iload_n hx hb dX6_drawn_11 rfl (lv_at hl 2 rfl) ?_
    refine lv_iconst (v := 0) hx hb dX6_drawn_12 (by decide) ?_
    refine lv_iconst (v := 1) hx hb dX6_drawn_13 (by decide) ?_
    obtain ⟨r14, g14, h⟩ := bd_of h
    refine call_iS (As := [.int x2, .int (0 : Int32), .int (1 : Int32)]) (rest := []) C hP hD hS (c_X6_in g14) (gS wd_843 wd_844 wd_75 wd_845) es_X6_in ⟨rfl, rfl⟩ ⟨Nat.le_of_ble_eq_true rfl, Nat.le_of_ble_eq_true rfl⟩ hl.1 rfl (Nat.le_of_ble_eq_true rfl) dX6_drawn_14 (fun H locs hP hD hS => ?_)
    refine lv_if_ne (tgt := 23) hx hb dX6_drawn_17 (by decide) (fun c17 => ?_) (fun c17 => ?_)
    · replace h := it_t (b2i_1 c17) h
      refine lv_aload_n hx hb dX6_drawn_23 rfl (lv_at hl 0 rfl) ?_
      refine lv_iload_n hx hb dX6_drawn_24 rfl (lv_at hl 1 rfl) ?_
      obtain ⟨r25, M25, g25, h⟩ := bd2_of h
      refine call_iV (As := [.int x1]) (rest := []) C hP hD hS (c_X6_floods g25) (iL (by decide)) ⟨6, _, _, ent_6 (by decide), rfl, rfl⟩ (gV wd_1237 wd_1239 wd_62 wd_75 wd_1240) ev_X6_floods ⟨rfl, rfl⟩ ⟨Nat.le_of_ble_eq_true rfl, Nat.le_of_ble_eq_true rfl⟩ hl.1 rfl (Nat.le_of_ble_eq_true rfl) dX6_drawn_25 (fun H locs hP hD hS => ?_)
      refine lv_istore_n (lv' := [(3, .int r25), (0, .ref (ad 100)), (1, .int x1), (2, .int x2)]) hx hb dX6_drawn_28 rfl hl (by decide) rfl (fun ls hl => ?_)
      refine lv_iload_n hx hb dX6_drawn_29 rfl (lv_at hl 3 rfl) ?_
      refine lv_if_ne (tgt := 37) hx hb dX6_drawn_30 (by decide) (fun c30 => ?_) (fun c30 => ?_)
      · replace h := it_f c30 h
        refine lv_aload_n hx hb dX6_drawn_37 rfl (lv_at hl 1 rfl) ?_
        refine gf_6_36 C hP (iL (by decide)) (by decide) wd_918 dX6_drawn_38 ?_
        exact rt_i (r := (FI M25 100 36)) C hP hD hS dX6_drawn_41 (rw_end h)
      · replace h := it_t c30 h
        refine lv_iload_n hx hb dX6_drawn_33 rfl (lv_at hl 0 rfl) ?_
        refine lv_goto (tgt := 41) hx hb dX6_drawn_34 (by decide) ?_
        exact rt_i (r := r25) C hP hD hS dX6_drawn_41 (rw_end h)
    · replace h := it_f (b2i_n c17) h
      refine lv_bipush (v := -2) hx hb dX6_drawn_20 (by decide) ?_
      exact rt_i (r := (-2 : Int32)) C hP hD hS dX6_drawn_22 (rw_end h)
def f_X6_drawn (N : Nat) (x1 : Int32) (x2 : Int32) (M : Mem) : Option (Int32 × Mem) := b_X6_drawn_0 N x1 x2 M
theorem c_X6_drawn {l : Launch} {D : va_G} {cy : Nat → ClassId} {ad : Nat → Nat} {zz : (Nat → Nat) × (Nat → Nat)} {N : Nat} {x1 : Int32} {x2 : Int32} {M : Mem} {rr : Int32} {M' : Mem} (h : f_X6_drawn N x1 x2 M = some (rr, M')) : CTi l D cy ad zz 100 21 yX6_drawn (.code yX6_drawn cX6_drawn 4 (some .int) :: tb) ({ frames := 6, cells := 0, slots := 0, locals := 144 } : Room) [.ref (ad 100), .int x1, .int x2] M rr M' := by
  intro sz
  refine CX.of (by decide +kernel) (fun p e s m args below meth c H ls C hP hD hS hl => ?_) (Nat.le_of_ble_eq_true rfl)
  exact w_X6_drawn_0 C hP hD hS hl h
theorem ev_X6_drawn : yX6_drawn.cls = RX6 ∧ yX6_drawn.cls ≠ "java/lang/invoke/MethodHandle" ∧ yX6_drawn.cls ≠ "java/lang/invoke/VarHandle" ∧ (parseMethodDescriptor yX6_drawn.desc).map (fun d => d.parameters.length) = some 2 := by decide +kernel
def b_X6_odds_77 (N : Nat) (x1 : Int32) (x2 : Int32) (x3 : Int32) (x4 : Int32) (k52 : Int64 → Int32 → Mem → Option (Int64 × Mem)) (x7 : Int32) (u0 : Int64) (u1 : Int64) (M : Mem) : Option (Int64 × Mem) := k52 (u0 + u1) (x7 + (1 : Int32)) M
set_option maxHeartbeats 4000000 in
set_option maxRecDepth 100000 in
theorem w_X6_odds_77 (C : CX p s m args meth c cX6_odds 8 (some .long) RX6 D cy ad zz 100 21 A) {N : Nat} {M : Mem} {x1 : Int32} {x2 : Int32} {x3 : Int32} {x4 : Int32} {k52 : Int64 → Int32 → Mem → Option (Int64 × Mem)} {rr : Int64} {M' : Mem} (hk52 : ∀ (y5 : Int64), ∀ (x7 : Int32), ∀ (M : Mem), ∀ (H : Heap) (locs : List Loc), va_P D vwCl (pool cy ad 100 21 M) H → va_D A (pool cy ad 100 21 M) → va_S A s.heap H locs → ∀ (ls : Array Slot), lv_has ls 8 [(0, .ref (ad 100)), (1, .int x1), (2, .int x2), (3, .int x3), (4, .int x4), (5, .long y5), (7, .int x7)] → k52 y5 x7 M = some (rr, M') → W p l e ({ frames := 6, cells := 0, slots := 0, locals := 144 } : Room) s m args below meth c H locs 0 0 (MQ below (va_Ql (fun (x : Int64) (_ : Unit) => x = rr) (fun _ t => PA D cy ad 100 21 A M' t) A) args s 0 0 A) (F0 m 52 ls [])) {x7 : Int32} {u0 : Int64} {u1 : Int64} {H : Heap} {locs : List Loc} (hP : va_P D vwCl (pool cy ad 100 21 M) H) (hD : va_D A (pool cy ad 100 21 M)) (hS : va_S A s.heap H locs) {ls : Array Slot} (hl : lv_has ls 8 [(0, .ref (ad 100)), (1, .int x1), (2, .int x2), (3, .int x3), (4, .int x4), (7, .int x7)]) (h : b_X6_odds_77 N x1 x2 x3 x4 k52 x7 u0 u1 M = some (rr, M')) : W p l e ({ frames := 6, cells := 0, slots := 0, locals := 144 } : Room) s m args below meth c H locs 0 0 (MQ below (va_Ql (fun (x : Int64) (_ : Unit) => x = rr) (fun _ t => PA D cy ad 100 21 A M' t) A) args s 0 0 A) (F0 m 77 ls [.long u1, .long u0]) := by
  obtain ⟨hx, hb, hml, hown, hts, hr, hlk, hK, hN, hA, hX⟩ := id C
  unfold b_X6_odds_77 at h
  refine lv_ladd hx hb dX6_odds_77 ?_
  refine lv_lstore (lv' := [(5, .long (u0 + u1)), (0, .ref (ad 100)), (1, .int x1), (2, .int x2), (3, .int x3), (4, .int x4), (7, .int x7)]) hx hb dX6_odds_78 hl (by decide) rfl (fun ls hl => ?_)
  refine lv_iinc (v := (x7 + (1 : Int32))) (lv' := [(7, .int (x7 + (1 : Int32))), (5, .long (u0 + u1)), (0, .ref (ad 100)), (1, .int x1), (2, .int x2), (3, .int x3), (4, .int x4)]) hx hb dX6_odds_80 hl (k := 6) rfl rfl (by decide) rfl (fun ls hl => ?_)
  refine lv_goto (tgt := 52) hx hb dX6_odds_83 (by decide) ?_
  exact hk52 _ _ _ _ _ hP hD hS _ (lv_sub hl [2, 3, 4, 5, 6, 1, 0] rfl) h
def b_X6_odds_52 (N : Nat) (x1 : Int32) (x2 : Int32) (x3 : Int32) (x4 : Int32) : Nat → Int64 → Int32 → Mem → Option (Int64 × Mem)
  | 0, _, _, _ => none
  | fu + 1, y5, x7, M => (if x2 ≤ x7 then (f_X6_lowest N y5 (x2.toInt64) x4 M).bind fun r92 => some (r92, M) else bd2 (f_X6_floods N (x1 + x7) M) fun r65 M65 => (if r65 < x3 then b_X6_odds_77 N x1 x2 x3 x4 (b_X6_odds_52 N x1 x2 x3 x4 fu) x7 y5 (0 : Int64) M65 else b_X6_odds_77 N x1 x2 x3 x4 (b_X6_odds_52 N x1 x2 x3 x4 fu) x7 y5 (1 : Int64) M65))
set_option maxHeartbeats 4000000 in
set_option maxRecDepth 100000 in
theorem w_X6_odds_52 (C : CX p s m args meth c cX6_odds 8 (some .long) RX6 D cy ad zz 100 21 A) {N : Nat} {x1 : Int32} {x2 : Int32} {x3 : Int32} {x4 : Int32} {rr : Int64} {M' : Mem}  : ∀ (fu : Nat), ∀ (y5 : Int64), ∀ (x7 : Int32), ∀ (M : Mem), ∀ (H : Heap) (locs : List Loc), va_P D vwCl (pool cy ad 100 21 M) H → va_D A (pool cy ad 100 21 M) → va_S A s.heap H locs → ∀ (ls : Array Slot), lv_has ls 8 [(0, .ref (ad 100)), (1, .int x1), (2, .int x2), (3, .int x3), (4, .int x4), (5, .long y5), (7, .int x7)] → b_X6_odds_52 N x1 x2 x3 x4 fu y5 x7 M = some (rr, M') → W p l e ({ frames := 6, cells := 0, slots := 0, locals := 144 } : Room) s m args below meth c H locs 0 0 (MQ below (va_Ql (fun (x : Int64) (_ : Unit) => x = rr) (fun _ t => PA D cy ad 100 21 A M' t) A) args s 0 0 A) (F0 m 52 ls []) := by
  obtain ⟨hx, hb, hml, hown, hts, hr, hlk, hK, hN, hA, hX⟩ := id C
  intro fu
  induction fu with
  | zero =>
    intro y5 x7 M H locs hP hD hS ls hl h
    exact no_some (show none = some _ from h)
  | succ fu ih =>
    intro y5 x7 M H locs hP hD hS ls hl h
    rw [b_X6_odds_52] at h
    refine lv_iload hx hb dX6_odds_52 (lv_at hl 6 rfl) ?_
    refine lv_iload_n hx hb dX6_odds_54 rfl (lv_at hl 2 rfl) ?_
    refine lv_icmp_ge (tgt := 86) hx hb dX6_odds_55 (by decide) (fun c55 => ?_) (fun c55 => ?_)
    · replace h := it_t c55 h
      refine lv_lload hx hb dX6_odds_86 (lv_at hl 5 rfl) ?_
      refine lv_iload_n hx hb dX6_odds_88 rfl (lv_at hl 2 rfl) ?_
      refine lv_i2l (v := (x2.toInt64)) hx hb dX6_odds_89 rfl ?_
      refine lv_iload hx hb dX6_odds_90 (lv_at hl 4 rfl) ?_
      obtain ⟨r92, g92, h⟩ := bd_of h
      refine call_lS (As := [.long y5, .long (x2.toInt64), .int x4]) (rest := []) C hP hD hS (c_X6_lowest g92) (gS wd_1189 wd_1190 wd_75 wd_1191) es_X6_lowest ⟨rfl, rfl⟩ ⟨Nat.le_of_ble_eq_true rfl, Nat.le_of_ble_eq_true rfl⟩ hl.1 rfl (Nat.le_of_ble_eq_true rfl) dX6_odds_92 (fun H locs hP hD hS => ?_)
      exact rt_l (r := r92) C hP hD hS dX6_odds_95 (rw_end h)
    · replace h := it_f c55 h
      refine lv_lload hx hb dX6_odds_58 (lv_at hl 5 rfl) ?_
      refine lv_aload_n hx hb dX6_odds_60 rfl (lv_at hl 0 rfl) ?_
      refine lv_iload_n hx hb dX6_odds_61 rfl (lv_at hl 1 rfl) ?_
      refine lv_iload hx hb dX6_odds_62 (lv_at hl 6 rfl) ?_
      refine lv_iadd hx hb dX6_odds_64 ?_
      obtain ⟨r65, M65, g65, h⟩ := bd2_of h
      refine call_iV (As := [.int (x1 + x7)]) (rest := [.long y5]) C hP hD hS (c_X6_floods g65) (iL (by decide)) ⟨6, _, _, ent_6 (by decide), rfl, rfl⟩ (gV wd_1237 wd_1239 wd_62 wd_75 wd_1240) ev_X6_floods ⟨rfl, rfl⟩ ⟨Nat.le_of_ble_eq_true rfl, Nat.le_of_ble_eq_true rfl⟩ hl.1 rfl (Nat.le_of_ble_eq_true rfl) dX6_odds_65 (fun H locs hP hD hS => ?_)
      refine lv_iload_n hx hb dX6_odds_68 rfl (lv_at hl 3 rfl) ?_
      refine lv_icmp_lt (tgt := 76) hx hb dX6_odds_69 (by decide) (fun c69 => ?_) (fun c69 => ?_)
      · replace h := it_t c69 h
        refine lv_lconst (v := 0) hx hb dX6_odds_76 (by decide) ?_
        exact w_X6_odds_77 C ih hP hD hS (lv_sub hl [0, 1, 2, 3, 4, 6] rfl) h
      · replace h := it_f c69 h
        refine lv_lconst (v := 1) hx hb dX6_odds_72 (by decide) ?_
        refine lv_goto (tgt := 77) hx hb dX6_odds_73 (by decide) ?_
        exact w_X6_odds_77 C ih hP hD hS (lv_sub hl [0, 1, 2, 3, 4, 6] rfl) h
def b_X6_odds_0 (N : Nat) (x1 : Int32) (x2 : Int32) (x3 : Int32) (x4 : Int32) (M : Mem) : Option (Int64 × Mem) := (f_X6_in x1 (0 : Int32) (99999 : Int32) M).bind fun r5 => (if r5 = true then (f_X6_in x2 (1 : Int32) (40 : Int32) M).bind fun r15 => (if r15 = true then (f_X6_in x3 (0 : Int32) (999 : Int32) M).bind fun r26 => (if r26 = true then (f_X6_in x4 (0 : Int32) (1 : Int32) M).bind fun r36 => (if r36 = true then b_X6_odds_52 N x1 x2 x3 x4 N (0 : Int64) (0 : Int32) M else some ((-4611686018427387904 : Int64), M)) else some ((-4611686018427387904 : Int64), M)) else some ((-4611686018427387904 : Int64), M)) else some ((-4611686018427387904 : Int64), M))
set_option maxHeartbeats 4000000 in
set_option maxRecDepth 100000 in
theorem w_X6_odds_0 (C : CX p s m args meth c cX6_odds 8 (some .long) RX6 D cy ad zz 100 21 A) {N : Nat} {M : Mem} {x1 : Int32} {x2 : Int32} {x3 : Int32} {x4 : Int32} {rr : Int64} {M' : Mem} {H : Heap} {locs : List Loc} (hP : va_P D vwCl (pool cy ad 100 21 M) H) (hD : va_D A (pool cy ad 100 21 M)) (hS : va_S A s.heap H locs) {ls : Array Slot} (hl : lv_has ls 8 [(0, .ref (ad 100)), (1, .int x1), (2, .int x2), (3, .int x3), (4, .int x4)]) (h : b_X6_odds_0 N x1 x2 x3 x4 M = some (rr, M')) : W p l e ({ frames := 6, cells := 0, slots := 0, locals := 144 } : Room) s m args below meth c H locs 0 0 (MQ below (va_Ql (fun (x : Int64) (_ : Unit) => x = rr) (fun _ t => PA D cy ad 100 21 A M' t) A) args s 0 0 A) (F0 m 0 ls []) := by
  obtain ⟨hx, hb, hml, hown, hts, hr, hlk, hK, hN, hA, hX⟩ := id C
  unfold b_X6_odds_0 at h
  refine lv_iload_n hx hb dX6_odds_0 rfl (lv_at hl 1 rfl) ?_
  refine lv_iconst (v := 0) hx hb dX6_odds_1 (by decide) ?_
  refine lv_ldcw hx hb hown (hts _ wd_1236) dX6_odds_2 ?_
  obtain ⟨r5, g5, h⟩ := bd_of h
  refine call_iS (As := [.int x1, .int (0 : Int32), .int (99999 : Int32)]) (rest := []) C hP hD hS (c_X6_in g5) (gS wd_843 wd_844 wd_75 wd_845) es_X6_in ⟨rfl, rfl⟩ ⟨Nat.le_of_ble_eq_true rfl, Nat.le_of_ble_eq_true rfl⟩ hl.1 rfl (Nat.le_of_ble_eq_true rfl) dX6_odds_5 (fun H locs hP hD hS => ?_)
  refine lv_if_eq (tgt := 42) hx hb dX6_odds_8 (by decide) (fun c8 => ?_) (fun c8 => ?_)
  · replace h := it_f (b2i_n c8) h
    refine lv_ldc2 hx hb hown (hts _ wd_1136) dX6_odds_42 ?_
    exact rt_l (r := (-4611686018427387904 : Int64)) C hP hD hS dX6_odds_45 (rw_end h)
  · replace h := it_t (b2i_1 c8) h
    refine lv_iload_n hx hb dX6_odds_11 rfl (lv_at hl 2 rfl) ?_
    refine lv_iconst (v := 1) hx hb dX6_odds_12 (by decide) ?_
    refine lv_bipush (v := 40) hx hb dX6_odds_13 (by decide) ?_
    obtain ⟨r15, g15, h⟩ := bd_of h
    refine call_iS (As := [.int x2, .int (1 : Int32), .int (40 : Int32)]) (rest := []) C hP hD hS (c_X6_in g15) (gS wd_843 wd_844 wd_75 wd_845) es_X6_in ⟨rfl, rfl⟩ ⟨Nat.le_of_ble_eq_true rfl, Nat.le_of_ble_eq_true rfl⟩ hl.1 rfl (Nat.le_of_ble_eq_true rfl) dX6_odds_15 (fun H locs hP hD hS => ?_)
    refine lv_if_eq (tgt := 42) hx hb dX6_odds_18 (by decide) (fun c18 => ?_) (fun c18 => ?_)
    · replace h := it_f (b2i_n c18) h
      refine lv_ldc2 hx hb hown (hts _ wd_1136) dX6_odds_42 ?_
      exact rt_l (r := (-4611686018427387904 : Int64)) C hP hD hS dX6_odds_45 (rw_end h)
    · replace h := it_t (b2i_1 c18) h
      refine lv_iload_n hx hb dX6_odds_21 rfl (lv_at hl 3 rfl) ?_
      refine lv_iconst (v := 0) hx hb dX6_odds_22 (by decide) ?_
      refine lv_sipush (v := 999) hx hb dX6_odds_23 (by decide) ?_
      obtain ⟨r26, g26, h⟩ := bd_of h
      refine call_iS (As := [.int x3, .int (0 : Int32), .int (999 : Int32)]) (rest := []) C hP hD hS (c_X6_in g26) (gS wd_843 wd_844 wd_75 wd_845) es_X6_in ⟨rfl, rfl⟩ ⟨Nat.le_of_ble_eq_true rfl, Nat.le_of_ble_eq_true rfl⟩ hl.1 rfl (Nat.le_of_ble_eq_true rfl) dX6_odds_26 (fun H locs hP hD hS => ?_)
      refine lv_if_eq (tgt := 42) hx hb dX6_odds_29 (by decide) (fun c29 => ?_) (fun c29 => ?_)
      · replace h := it_f (b2i_n c29) h
        refine lv_ldc2 hx hb hown (hts _ wd_1136) dX6_odds_42 ?_
        exact rt_l (r := (-4611686018427387904 : Int64)) C hP hD hS dX6_odds_45 (rw_end h)
      · replace h := it_t (b2i_1 c29) h
        refine lv_iload hx hb dX6_odds_32 (lv_at hl 4 rfl) ?_
        refine lv_iconst (v := 0) hx hb dX6_odds_34 (by decide) ?_
        refine lv_iconst (v := 1) hx hb dX6_odds_35 (by decide) ?_
        obtain ⟨r36, g36, h⟩ := bd_of h
        refine call_iS (As := [.int x4, .int (0 : Int32), .int (1 : Int32)]) (rest := []) C hP hD hS (c_X6_in g36) (gS wd_843 wd_844 wd_75 wd_845) es_X6_in ⟨rfl, rfl⟩ ⟨Nat.le_of_ble_eq_true rfl, Nat.le_of_ble_eq_true rfl⟩ hl.1 rfl (Nat.le_of_ble_eq_true rfl) dX6_odds_36 (fun H locs hP hD hS => ?_)
        refine lv_if_ne (tgt := 46) hx hb dX6_odds_39 (by decide) (fun c39 => ?_) (fun c39 => ?_)
        · replace h := it_t (b2i_1 c39) h
          refine lv_lconst (v := 0) hx hb dX6_odds_46 (by decide) ?_
          refine lv_lstore (lv' := [(5, .long (0 : Int64)), (0, .ref (ad 100)), (1, .int x1), (2, .int x2), (3, .int x3), (4, .int x4)]) hx hb dX6_odds_47 hl (by decide) rfl (fun ls hl => ?_)
          refine lv_iconst (v := 0) hx hb dX6_odds_49 (by decide) ?_
          refine lv_istore (lv' := [(7, .int (0 : Int32)), (5, .long (0 : Int64)), (0, .ref (ad 100)), (1, .int x1), (2, .int x2), (3, .int x3), (4, .int x4)]) hx hb dX6_odds_50 hl (by decide) rfl (fun ls hl => ?_)
          exact w_X6_odds_52 C N _ _ _ _ _ hP hD hS _ (lv_sub hl [2, 3, 4, 5, 6, 1, 0] rfl) h
        · replace h := it_f (b2i_n c39) h
          refine lv_ldc2 hx hb hown (hts _ wd_1136) dX6_odds_42 ?_
          exact rt_l (r := (-4611686018427387904 : Int64)) C hP hD hS dX6_odds_45 (rw_end h)
def f_X6_odds (N : Nat) (x1 : Int32) (x2 : Int32) (x3 : Int32) (x4 : Int32) (M : Mem) : Option (Int64 × Mem) := b_X6_odds_0 N x1 x2 x3 x4 M
theorem c_X6_odds {l : Launch} {D : va_G} {cy : Nat → ClassId} {ad : Nat → Nat} {zz : (Nat → Nat) × (Nat → Nat)} {N : Nat} {x1 : Int32} {x2 : Int32} {x3 : Int32} {x4 : Int32} {M : Mem} {rr : Int64} {M' : Mem} (h : f_X6_odds N x1 x2 x3 x4 M = some (rr, M')) : CTl l D cy ad zz 100 21 yX6_odds (.code yX6_odds cX6_odds 8 (some .long) :: tb) ({ frames := 6, cells := 0, slots := 0, locals := 144 } : Room) [.ref (ad 100), .int x1, .int x2, .int x3, .int x4] M rr M' := by
  intro sz
  refine CX.of (by decide +kernel) (fun p e s m args below meth c H ls C hP hD hS hl => ?_) (Nat.le_of_ble_eq_true rfl)
  exact w_X6_odds_0 C hP hD hS hl h
theorem ev_X6_odds : yX6_odds.cls = RX6 ∧ yX6_odds.cls ≠ "java/lang/invoke/MethodHandle" ∧ yX6_odds.cls ≠ "java/lang/invoke/VarHandle" ∧ (parseMethodDescriptor yX6_odds.desc).map (fun d => d.parameters.length) = some 4 := by decide +kernel
def b_X6_image_127 (N : Nat) (M : Mem) : Option (Int32 × Mem) := some ((FI M 100 0), M)
set_option maxHeartbeats 4000000 in
set_option maxRecDepth 100000 in
theorem w_X6_image_127 (C : CX p s m args meth c cX6_image 2 (some .int) RX6 D cy ad zz 100 21 A) {N : Nat} {M : Mem} {rr : Int32} {M' : Mem} {H : Heap} {locs : List Loc} (hP : va_P D vwCl (pool cy ad 100 21 M) H) (hD : va_D A (pool cy ad 100 21 M)) (hS : va_S A s.heap H locs) {ls : Array Slot} (hl : lv_has ls 2 [(0, .ref (ad 100))]) (h : b_X6_image_127 N M = some (rr, M')) : W p l e ({ frames := 0, cells := 0, slots := 0, locals := 0 } : Room) s m args below meth c H locs 0 0 (MQ below (va_Qi (fun (x : Int32) (_ : Unit) => x = rr) (fun _ t => PA D cy ad 100 21 A M' t) A) args s 0 0 A) (F0 m 127 ls []) := by
  obtain ⟨hx, hb, hml, hown, hts, hr, hlk, hK, hN, hA, hX⟩ := id C
  unfold b_X6_image_127 at h
  refine lv_aload_n hx hb dX6_image_127 rfl (lv_at hl 0 rfl) ?_
  refine gf_6_0 C hP (iL (by decide)) (by decide) wd_882 dX6_image_128 ?_
  exact rt_i (r := (FI M 100 0)) C hP hD hS dX6_image_131 (rw_end h)
def b_X6_image_117 (N : Nat) (M : Mem) : Option (Int32 × Mem) := b_X6_image_127 N (sAI M 110 (2 : Int32).toNatClampNeg (FI M 100 13))
set_option maxHeartbeats 4000000 in
set_option maxRecDepth 100000 in
theorem w_X6_image_117 (C : CX p s m args meth c cX6_image 2 (some .int) RX6 D cy ad zz 100 21 A) {N : Nat} {M : Mem} {rr : Int32} {M' : Mem} {H : Heap} {locs : List Loc} (hP : va_P D vwCl (pool cy ad 100 21 M) H) (hD : va_D A (pool cy ad 100 21 M)) (hS : va_S A s.heap H locs) {ls : Array Slot} (hl : lv_has ls 2 [(0, .ref (ad 100))]) (h : b_X6_image_117 N M = some (rr, M')) : W p l e ({ frames := 0, cells := 0, slots := 0, locals := 0 } : Room) s m args below meth c H locs 0 0 (MQ below (va_Qi (fun (x : Int32) (_ : Unit) => x = rr) (fun _ t => PA D cy ad 100 21 A M' t) A) args s 0 0 A) (F0 m 117 ls []) := by
  obtain ⟨hx, hb, hml, hown, hts, hr, hlk, hK, hN, hA, hX⟩ := id C
  unfold b_X6_image_117 at h
  refine lv_aload_n hx hb dX6_image_117 rfl (lv_at hl 0 rfl) ?_
  refine gf_6_17 C hP (iL (by decide)) (by decide) wd_899 dX6_image_118 ?_
  refine lv_iconst (v := 2) hx hb dX6_image_121 (by decide) ?_
  refine lv_aload_n hx hb dX6_image_122 rfl (lv_at hl 0 rfl) ?_
  refine gf_6_13 C hP (iL (by decide)) (by decide) wd_895 dX6_image_123 ?_
  refine ia_st C hP hD hS (iL (by decide)) (by decide) (by decide) dX6_image_126 (fun H locs hP hD hS => ?_)
  exact w_X6_image_127 C hP hD hS hl h
def b_X6_image_107 (N : Nat) (M : Mem) : Option (Int32 × Mem) := b_X6_image_117 N (sAI M 110 (1 : Int32).toNatClampNeg (FI M 100 7))
set_option maxHeartbeats 4000000 in
set_option maxRecDepth 100000 in
theorem w_X6_image_107 (C : CX p s m args meth c cX6_image 2 (some .int) RX6 D cy ad zz 100 21 A) {N : Nat} {M : Mem} {rr : Int32} {M' : Mem} {H : Heap} {locs : List Loc} (hP : va_P D vwCl (pool cy ad 100 21 M) H) (hD : va_D A (pool cy ad 100 21 M)) (hS : va_S A s.heap H locs) {ls : Array Slot} (hl : lv_has ls 2 [(0, .ref (ad 100))]) (h : b_X6_image_107 N M = some (rr, M')) : W p l e ({ frames := 0, cells := 0, slots := 0, locals := 0 } : Room) s m args below meth c H locs 0 0 (MQ below (va_Qi (fun (x : Int32) (_ : Unit) => x = rr) (fun _ t => PA D cy ad 100 21 A M' t) A) args s 0 0 A) (F0 m 107 ls []) := by
  obtain ⟨hx, hb, hml, hown, hts, hr, hlk, hK, hN, hA, hX⟩ := id C
  unfold b_X6_image_107 at h
  refine lv_aload_n hx hb dX6_image_107 rfl (lv_at hl 0 rfl) ?_
  refine gf_6_17 C hP (iL (by decide)) (by decide) wd_899 dX6_image_108 ?_
  refine lv_iconst (v := 1) hx hb dX6_image_111 (by decide) ?_
  refine lv_aload_n hx hb dX6_image_112 rfl (lv_at hl 0 rfl) ?_
  refine gf_6_7 C hP (iL (by decide)) (by decide) wd_889 dX6_image_113 ?_
  refine ia_st C hP hD hS (iL (by decide)) (by decide) (by decide) dX6_image_116 (fun H locs hP hD hS => ?_)
  exact w_X6_image_117 C hP hD hS hl h
def b_X6_image_97 (N : Nat) (M : Mem) : Option (Int32 × Mem) := b_X6_image_107 N (sAI M 110 (0 : Int32).toNatClampNeg (FI M 100 0))
set_option maxHeartbeats 4000000 in
set_option maxRecDepth 100000 in
theorem w_X6_image_97 (C : CX p s m args meth c cX6_image 2 (some .int) RX6 D cy ad zz 100 21 A) {N : Nat} {M : Mem} {rr : Int32} {M' : Mem} {H : Heap} {locs : List Loc} (hP : va_P D vwCl (pool cy ad 100 21 M) H) (hD : va_D A (pool cy ad 100 21 M)) (hS : va_S A s.heap H locs) {ls : Array Slot} (hl : lv_has ls 2 [(0, .ref (ad 100))]) (h : b_X6_image_97 N M = some (rr, M')) : W p l e ({ frames := 0, cells := 0, slots := 0, locals := 0 } : Room) s m args below meth c H locs 0 0 (MQ below (va_Qi (fun (x : Int32) (_ : Unit) => x = rr) (fun _ t => PA D cy ad 100 21 A M' t) A) args s 0 0 A) (F0 m 97 ls []) := by
  obtain ⟨hx, hb, hml, hown, hts, hr, hlk, hK, hN, hA, hX⟩ := id C
  unfold b_X6_image_97 at h
  refine lv_aload_n hx hb dX6_image_97 rfl (lv_at hl 0 rfl) ?_
  refine gf_6_17 C hP (iL (by decide)) (by decide) wd_899 dX6_image_98 ?_
  refine lv_iconst (v := 0) hx hb dX6_image_101 (by decide) ?_
  refine lv_aload_n hx hb dX6_image_102 rfl (lv_at hl 0 rfl) ?_
  refine gf_6_0 C hP (iL (by decide)) (by decide) wd_882 dX6_image_103 ?_
  refine ia_st C hP hD hS (iL (by decide)) (by decide) (by decide) dX6_image_106 (fun H locs hP hD hS => ?_)
  exact w_X6_image_107 C hP hD hS hl h
def b_X6_image_83 (N : Nat) (k62 : Int32 → Mem → Option (Int32 × Mem)) (x1 : Int32) (M : Mem) : Option (Int32 × Mem) := k62 (x1 + (1 : Int32)) M
set_option maxHeartbeats 4000000 in
set_option maxRecDepth 100000 in
theorem w_X6_image_83 (C : CX p s m args meth c cX6_image 2 (some .int) RX6 D cy ad zz 100 21 A) {N : Nat} {M : Mem} {k62 : Int32 → Mem → Option (Int32 × Mem)} {rr : Int32} {M' : Mem} (hk62 : ∀ (x1 : Int32), ∀ (M : Mem), ∀ (H : Heap) (locs : List Loc), va_P D vwCl (pool cy ad 100 21 M) H → va_D A (pool cy ad 100 21 M) → va_S A s.heap H locs → ∀ (ls : Array Slot), lv_has ls 2 [(0, .ref (ad 100)), (1, .int x1)] → k62 x1 M = some (rr, M') → W p l e ({ frames := 0, cells := 0, slots := 0, locals := 0 } : Room) s m args below meth c H locs 0 0 (MQ below (va_Qi (fun (x : Int32) (_ : Unit) => x = rr) (fun _ t => PA D cy ad 100 21 A M' t) A) args s 0 0 A) (F0 m 62 ls [])) {x1 : Int32} {H : Heap} {locs : List Loc} (hP : va_P D vwCl (pool cy ad 100 21 M) H) (hD : va_D A (pool cy ad 100 21 M)) (hS : va_S A s.heap H locs) {ls : Array Slot} (hl : lv_has ls 2 [(0, .ref (ad 100)), (1, .int x1)]) (h : b_X6_image_83 N k62 x1 M = some (rr, M')) : W p l e ({ frames := 0, cells := 0, slots := 0, locals := 0 } : Room) s m args below meth c H locs 0 0 (MQ below (va_Qi (fun (x : Int32) (_ : Unit) => x = rr) (fun _ t => PA D cy ad 100 21 A M' t) A) args s 0 0 A) (F0 m 83 ls []) := by
  obtain ⟨hx, hb, hml, hown, hts, hr, hlk, hK, hN, hA, hX⟩ := id C
  unfold b_X6_image_83 at h
  refine lv_iinc (v := (x1 + (1 : Int32))) (lv' := [(1, .int (x1 + (1 : Int32))), (0, .ref (ad 100))]) hx hb dX6_image_83 hl (k := 1) rfl rfl (by decide) rfl (fun ls hl => ?_)
  refine lv_goto (tgt := 62) hx hb dX6_image_86 (by decide) ?_
  exact hk62 _ _ _ _ hP hD hS _ (lv_sub hl [1, 0] rfl) h
def b_X6_image_62 (N : Nat) : Nat → Int32 → Mem → Option (Int32 × Mem)
  | 0, _, _ => none
  | fu + 1, x1, M => (if (6 : Int32) ≤ x1 then b_X6_image_97 N (sFJ M 100 16 (FJ M 100 6)) else gd (inb x1 (len 105)) (gd (inb ((126 : Int32) + x1) (len 109)) (b_X6_image_83 N (b_X6_image_62 N fu) x1 (sAI M 109 ((126 : Int32) + x1).toNatClampNeg (AI M 105 x1.toNatClampNeg)))))
set_option maxHeartbeats 4000000 in
set_option maxRecDepth 100000 in
theorem w_X6_image_62 (C : CX p s m args meth c cX6_image 2 (some .int) RX6 D cy ad zz 100 21 A) {N : Nat} {rr : Int32} {M' : Mem}  : ∀ (fu : Nat), ∀ (x1 : Int32), ∀ (M : Mem), ∀ (H : Heap) (locs : List Loc), va_P D vwCl (pool cy ad 100 21 M) H → va_D A (pool cy ad 100 21 M) → va_S A s.heap H locs → ∀ (ls : Array Slot), lv_has ls 2 [(0, .ref (ad 100)), (1, .int x1)] → b_X6_image_62 N fu x1 M = some (rr, M') → W p l e ({ frames := 0, cells := 0, slots := 0, locals := 0 } : Room) s m args below meth c H locs 0 0 (MQ below (va_Qi (fun (x : Int32) (_ : Unit) => x = rr) (fun _ t => PA D cy ad 100 21 A M' t) A) args s 0 0 A) (F0 m 62 ls []) := by
  obtain ⟨hx, hb, hml, hown, hts, hr, hlk, hK, hN, hA, hX⟩ := id C
  intro fu
  induction fu with
  | zero =>
    intro x1 M H locs hP hD hS ls hl h
    exact no_some (show none = some _ from h)
  | succ fu ih =>
    intro x1 M H locs hP hD hS ls hl h
    rw [b_X6_image_62] at h
    refine lv_iload_n hx hb dX6_image_62 rfl (lv_at hl 1 rfl) ?_
    refine lv_bipush (v := 6) hx hb dX6_image_63 (by decide) ?_
    refine lv_icmp_ge (tgt := 89) hx hb dX6_image_65 (by decide) (fun c65 => ?_) (fun c65 => ?_)
    · replace h := it_t c65 h
      refine lv_aload_n hx hb dX6_image_89 rfl (lv_at hl 0 rfl) ?_
      refine lv_aload_n hx hb dX6_image_90 rfl (lv_at hl 0 rfl) ?_
      refine gf_6_6 C hP (iL (by decide)) (by decide) wd_888 dX6_image_91 ?_
      refine pf_6_16 C hP hD hS (iL (by decide)) (by decide) wd_898 dX6_image_94 (fun H locs hP hD hS => ?_)
      exact w_X6_image_97 C hP hD hS (lv_sub hl [0] rfl) h
    · replace h := it_f c65 h
      refine lv_aload_n hx hb dX6_image_68 rfl (lv_at hl 0 rfl) ?_
      refine gf_6_15 C hP (iL (by decide)) (by decide) wd_897 dX6_image_69 ?_
      refine lv_bipush (v := 126) hx hb dX6_image_72 (by decide) ?_
      refine lv_iload_n hx hb dX6_image_74 rfl (lv_at hl 1 rfl) ?_
      refine lv_iadd hx hb dX6_image_75 ?_
      refine lv_aload_n hx hb dX6_image_76 rfl (lv_at hl 0 rfl) ?_
      refine gf_6_5 C hP (iL (by decide)) (by decide) wd_887 dX6_image_77 ?_
      refine lv_iload_n hx hb dX6_image_80 rfl (lv_at hl 1 rfl) ?_
      obtain ⟨gi1, h⟩ := gd_of h
      refine ia_ld C hP (iL (by decide)) (by decide) gi1 dX6_image_81 ?_
      obtain ⟨gi2, h⟩ := gd_of h
      refine ia_st C hP hD hS (iL (by decide)) (by decide) gi2 dX6_image_82 (fun H locs hP hD hS => ?_)
      exact w_X6_image_83 C ih hP hD hS hl h
def b_X6_image_54 (N : Nat) (k33 : Int32 → Mem → Option (Int32 × Mem)) (x1 : Int32) (M : Mem) : Option (Int32 × Mem) := k33 (x1 + (1 : Int32)) M
set_option maxHeartbeats 4000000 in
set_option maxRecDepth 100000 in
theorem w_X6_image_54 (C : CX p s m args meth c cX6_image 2 (some .int) RX6 D cy ad zz 100 21 A) {N : Nat} {M : Mem} {k33 : Int32 → Mem → Option (Int32 × Mem)} {rr : Int32} {M' : Mem} (hk33 : ∀ (x1 : Int32), ∀ (M : Mem), ∀ (H : Heap) (locs : List Loc), va_P D vwCl (pool cy ad 100 21 M) H → va_D A (pool cy ad 100 21 M) → va_S A s.heap H locs → ∀ (ls : Array Slot), lv_has ls 2 [(0, .ref (ad 100)), (1, .int x1)] → k33 x1 M = some (rr, M') → W p l e ({ frames := 0, cells := 0, slots := 0, locals := 0 } : Room) s m args below meth c H locs 0 0 (MQ below (va_Qi (fun (x : Int32) (_ : Unit) => x = rr) (fun _ t => PA D cy ad 100 21 A M' t) A) args s 0 0 A) (F0 m 33 ls [])) {x1 : Int32} {H : Heap} {locs : List Loc} (hP : va_P D vwCl (pool cy ad 100 21 M) H) (hD : va_D A (pool cy ad 100 21 M)) (hS : va_S A s.heap H locs) {ls : Array Slot} (hl : lv_has ls 2 [(0, .ref (ad 100)), (1, .int x1)]) (h : b_X6_image_54 N k33 x1 M = some (rr, M')) : W p l e ({ frames := 0, cells := 0, slots := 0, locals := 0 } : Room) s m args below meth c H locs 0 0 (MQ below (va_Qi (fun (x : Int32) (_ : Unit) => x = rr) (fun _ t => PA D cy ad 100 21 A M' t) A) args s 0 0 A) (F0 m 54 ls []) := by
  obtain ⟨hx, hb, hml, hown, hts, hr, hlk, hK, hN, hA, hX⟩ := id C
  unfold b_X6_image_54 at h
  refine lv_iinc (v := (x1 + (1 : Int32))) (lv' := [(1, .int (x1 + (1 : Int32))), (0, .ref (ad 100))]) hx hb dX6_image_54 hl (k := 1) rfl rfl (by decide) rfl (fun ls hl => ?_)
  refine lv_goto (tgt := 33) hx hb dX6_image_57 (by decide) ?_
  exact hk33 _ _ _ _ hP hD hS _ (lv_sub hl [1, 0] rfl) h
def b_X6_image_33 (N : Nat) : Nat → Int32 → Mem → Option (Int32 × Mem)
  | 0, _, _ => none
  | fu + 1, x1, M => (if (96 : Int32) ≤ x1 then b_X6_image_62 N N (0 : Int32) M else gd (inb x1 (len 104)) (gd (inb ((30 : Int32) + x1) (len 109)) (b_X6_image_54 N (b_X6_image_33 N fu) x1 (sAI M 109 ((30 : Int32) + x1).toNatClampNeg (AI M 104 x1.toNatClampNeg)))))
set_option maxHeartbeats 4000000 in
set_option maxRecDepth 100000 in
theorem w_X6_image_33 (C : CX p s m args meth c cX6_image 2 (some .int) RX6 D cy ad zz 100 21 A) {N : Nat} {rr : Int32} {M' : Mem}  : ∀ (fu : Nat), ∀ (x1 : Int32), ∀ (M : Mem), ∀ (H : Heap) (locs : List Loc), va_P D vwCl (pool cy ad 100 21 M) H → va_D A (pool cy ad 100 21 M) → va_S A s.heap H locs → ∀ (ls : Array Slot), lv_has ls 2 [(0, .ref (ad 100)), (1, .int x1)] → b_X6_image_33 N fu x1 M = some (rr, M') → W p l e ({ frames := 0, cells := 0, slots := 0, locals := 0 } : Room) s m args below meth c H locs 0 0 (MQ below (va_Qi (fun (x : Int32) (_ : Unit) => x = rr) (fun _ t => PA D cy ad 100 21 A M' t) A) args s 0 0 A) (F0 m 33 ls []) := by
  obtain ⟨hx, hb, hml, hown, hts, hr, hlk, hK, hN, hA, hX⟩ := id C
  intro fu
  induction fu with
  | zero =>
    intro x1 M H locs hP hD hS ls hl h
    exact no_some (show none = some _ from h)
  | succ fu ih =>
    intro x1 M H locs hP hD hS ls hl h
    rw [b_X6_image_33] at h
    refine lv_iload_n hx hb dX6_image_33 rfl (lv_at hl 1 rfl) ?_
    refine lv_bipush (v := 96) hx hb dX6_image_34 (by decide) ?_
    refine lv_icmp_ge (tgt := 60) hx hb dX6_image_36 (by decide) (fun c36 => ?_) (fun c36 => ?_)
    · replace h := it_t c36 h
      refine lv_iconst (v := 0) hx hb dX6_image_60 (by decide) ?_
      refine lv_istore_n (lv' := [(1, .int (0 : Int32)), (0, .ref (ad 100))]) hx hb dX6_image_61 rfl hl (by decide) rfl (fun ls hl => ?_)
      exact w_X6_image_62 C N _ _ _ _ hP hD hS _ (lv_sub hl [1, 0] rfl) h
    · replace h := it_f c36 h
      refine lv_aload_n hx hb dX6_image_39 rfl (lv_at hl 0 rfl) ?_
      refine gf_6_15 C hP (iL (by decide)) (by decide) wd_897 dX6_image_40 ?_
      refine lv_bipush (v := 30) hx hb dX6_image_43 (by decide) ?_
      refine lv_iload_n hx hb dX6_image_45 rfl (lv_at hl 1 rfl) ?_
      refine lv_iadd hx hb dX6_image_46 ?_
      refine lv_aload_n hx hb dX6_image_47 rfl (lv_at hl 0 rfl) ?_
      refine gf_6_4 C hP (iL (by decide)) (by decide) wd_886 dX6_image_48 ?_
      refine lv_iload_n hx hb dX6_image_51 rfl (lv_at hl 1 rfl) ?_
      obtain ⟨gi1, h⟩ := gd_of h
      refine ia_ld C hP (iL (by decide)) (by decide) gi1 dX6_image_52 ?_
      obtain ⟨gi2, h⟩ := gd_of h
      refine ia_st C hP hD hS (iL (by decide)) (by decide) gi2 dX6_image_53 (fun H locs hP hD hS => ?_)
      exact w_X6_image_54 C ih hP hD hS hl h
def b_X6_image_25 (N : Nat) (k7 : Int32 → Mem → Option (Int32 × Mem)) (x1 : Int32) (M : Mem) : Option (Int32 × Mem) := k7 (x1 + (1 : Int32)) M
set_option maxHeartbeats 4000000 in
set_option maxRecDepth 100000 in
theorem w_X6_image_25 (C : CX p s m args meth c cX6_image 2 (some .int) RX6 D cy ad zz 100 21 A) {N : Nat} {M : Mem} {k7 : Int32 → Mem → Option (Int32 × Mem)} {rr : Int32} {M' : Mem} (hk7 : ∀ (x1 : Int32), ∀ (M : Mem), ∀ (H : Heap) (locs : List Loc), va_P D vwCl (pool cy ad 100 21 M) H → va_D A (pool cy ad 100 21 M) → va_S A s.heap H locs → ∀ (ls : Array Slot), lv_has ls 2 [(0, .ref (ad 100)), (1, .int x1)] → k7 x1 M = some (rr, M') → W p l e ({ frames := 0, cells := 0, slots := 0, locals := 0 } : Room) s m args below meth c H locs 0 0 (MQ below (va_Qi (fun (x : Int32) (_ : Unit) => x = rr) (fun _ t => PA D cy ad 100 21 A M' t) A) args s 0 0 A) (F0 m 7 ls [])) {x1 : Int32} {H : Heap} {locs : List Loc} (hP : va_P D vwCl (pool cy ad 100 21 M) H) (hD : va_D A (pool cy ad 100 21 M)) (hS : va_S A s.heap H locs) {ls : Array Slot} (hl : lv_has ls 2 [(0, .ref (ad 100)), (1, .int x1)]) (h : b_X6_image_25 N k7 x1 M = some (rr, M')) : W p l e ({ frames := 0, cells := 0, slots := 0, locals := 0 } : Room) s m args below meth c H locs 0 0 (MQ below (va_Qi (fun (x : Int32) (_ : Unit) => x = rr) (fun _ t => PA D cy ad 100 21 A M' t) A) args s 0 0 A) (F0 m 25 ls []) := by
  obtain ⟨hx, hb, hml, hown, hts, hr, hlk, hK, hN, hA, hX⟩ := id C
  unfold b_X6_image_25 at h
  refine lv_iinc (v := (x1 + (1 : Int32))) (lv' := [(1, .int (x1 + (1 : Int32))), (0, .ref (ad 100))]) hx hb dX6_image_25 hl (k := 1) rfl rfl (by decide) rfl (fun ls hl => ?_)
  refine lv_goto (tgt := 7) hx hb dX6_image_28 (by decide) ?_
  exact hk7 _ _ _ _ hP hD hS _ (lv_sub hl [1, 0] rfl) h
def b_X6_image_7 (N : Nat) : Nat → Int32 → Mem → Option (Int32 × Mem)
  | 0, _, _ => none
  | fu + 1, x1, M => (if (30 : Int32) ≤ x1 then b_X6_image_33 N N (0 : Int32) M else gd (inb x1 (len 103)) (gd (inb x1 (len 109)) (b_X6_image_25 N (b_X6_image_7 N fu) x1 (sAI M 109 x1.toNatClampNeg (AI M 103 x1.toNatClampNeg)))))
set_option maxHeartbeats 4000000 in
set_option maxRecDepth 100000 in
theorem w_X6_image_7 (C : CX p s m args meth c cX6_image 2 (some .int) RX6 D cy ad zz 100 21 A) {N : Nat} {rr : Int32} {M' : Mem}  : ∀ (fu : Nat), ∀ (x1 : Int32), ∀ (M : Mem), ∀ (H : Heap) (locs : List Loc), va_P D vwCl (pool cy ad 100 21 M) H → va_D A (pool cy ad 100 21 M) → va_S A s.heap H locs → ∀ (ls : Array Slot), lv_has ls 2 [(0, .ref (ad 100)), (1, .int x1)] → b_X6_image_7 N fu x1 M = some (rr, M') → W p l e ({ frames := 0, cells := 0, slots := 0, locals := 0 } : Room) s m args below meth c H locs 0 0 (MQ below (va_Qi (fun (x : Int32) (_ : Unit) => x = rr) (fun _ t => PA D cy ad 100 21 A M' t) A) args s 0 0 A) (F0 m 7 ls []) := by
  obtain ⟨hx, hb, hml, hown, hts, hr, hlk, hK, hN, hA, hX⟩ := id C
  intro fu
  induction fu with
  | zero =>
    intro x1 M H locs hP hD hS ls hl h
    exact no_some (show none = some _ from h)
  | succ fu ih =>
    intro x1 M H locs hP hD hS ls hl h
    rw [b_X6_image_7] at h
    refine lv_iload_n hx hb dX6_image_7 rfl (lv_at hl 1 rfl) ?_
    refine lv_bipush (v := 30) hx hb dX6_image_8 (by decide) ?_
    refine lv_icmp_ge (tgt := 31) hx hb dX6_image_10 (by decide) (fun c10 => ?_) (fun c10 => ?_)
    · replace h := it_t c10 h
      refine lv_iconst (v := 0) hx hb dX6_image_31 (by decide) ?_
      refine lv_istore_n (lv' := [(1, .int (0 : Int32)), (0, .ref (ad 100))]) hx hb dX6_image_32 rfl hl (by decide) rfl (fun ls hl => ?_)
      exact w_X6_image_33 C N _ _ _ _ hP hD hS _ (lv_sub hl [1, 0] rfl) h
    · replace h := it_f c10 h
      refine lv_aload_n hx hb dX6_image_13 rfl (lv_at hl 0 rfl) ?_
      refine gf_6_15 C hP (iL (by decide)) (by decide) wd_897 dX6_image_14 ?_
      refine lv_iload_n hx hb dX6_image_17 rfl (lv_at hl 1 rfl) ?_
      refine lv_aload_n hx hb dX6_image_18 rfl (lv_at hl 0 rfl) ?_
      refine gf_6_3 C hP (iL (by decide)) (by decide) wd_885 dX6_image_19 ?_
      refine lv_iload_n hx hb dX6_image_22 rfl (lv_at hl 1 rfl) ?_
      obtain ⟨gi1, h⟩ := gd_of h
      refine ia_ld C hP (iL (by decide)) (by decide) gi1 dX6_image_23 ?_
      obtain ⟨gi2, h⟩ := gd_of h
      refine ia_st C hP hD hS (iL (by decide)) (by decide) gi2 dX6_image_24 (fun H locs hP hD hS => ?_)
      exact w_X6_image_25 C ih hP hD hS hl h
def b_X6_image_5 (N : Nat) (M : Mem) : Option (Int32 × Mem) := b_X6_image_7 N N (0 : Int32) M
set_option maxHeartbeats 4000000 in
set_option maxRecDepth 100000 in
theorem w_X6_image_5 (C : CX p s m args meth c cX6_image 2 (some .int) RX6 D cy ad zz 100 21 A) {N : Nat} {M : Mem} {rr : Int32} {M' : Mem} {H : Heap} {locs : List Loc} (hP : va_P D vwCl (pool cy ad 100 21 M) H) (hD : va_D A (pool cy ad 100 21 M)) (hS : va_S A s.heap H locs) {ls : Array Slot} (hl : lv_has ls 2 [(0, .ref (ad 100))]) (h : b_X6_image_5 N M = some (rr, M')) : W p l e ({ frames := 0, cells := 0, slots := 0, locals := 0 } : Room) s m args below meth c H locs 0 0 (MQ below (va_Qi (fun (x : Int32) (_ : Unit) => x = rr) (fun _ t => PA D cy ad 100 21 A M' t) A) args s 0 0 A) (F0 m 5 ls []) := by
  obtain ⟨hx, hb, hml, hown, hts, hr, hlk, hK, hN, hA, hX⟩ := id C
  unfold b_X6_image_5 at h
  refine lv_iconst (v := 0) hx hb dX6_image_5 (by decide) ?_
  refine lv_istore_n (lv' := [(1, .int (0 : Int32)), (0, .ref (ad 100))]) hx hb dX6_image_6 rfl hl (by decide) rfl (fun ls hl => ?_)
  exact w_X6_image_7 C N _ _ _ _ hP hD hS _ (lv_sub hl [1, 0] rfl) h
def b_X6_image_0 (N : Nat) (M : Mem) : Option (Int32 × Mem) := b_X6_image_5 N (sFI M 100 14 (1 : Int32))
set_option maxHeartbeats 4000000 in
set_option maxRecDepth 100000 in
theorem w_X6_image_0 (C : CX p s m args meth c cX6_image 2 (some .int) RX6 D cy ad zz 100 21 A) {N : Nat} {M : Mem} {rr : Int32} {M' : Mem} {H : Heap} {locs : List Loc} (hP : va_P D vwCl (pool cy ad 100 21 M) H) (hD : va_D A (pool cy ad 100 21 M)) (hS : va_S A s.heap H locs) {ls : Array Slot} (hl : lv_has ls 2 [(0, .ref (ad 100))]) (h : b_X6_image_0 N M = some (rr, M')) : W p l e ({ frames := 0, cells := 0, slots := 0, locals := 0 } : Room) s m args below meth c H locs 0 0 (MQ below (va_Qi (fun (x : Int32) (_ : Unit) => x = rr) (fun _ t => PA D cy ad 100 21 A M' t) A) args s 0 0 A) (F0 m 0 ls []) := by
  obtain ⟨hx, hb, hml, hown, hts, hr, hlk, hK, hN, hA, hX⟩ := id C
  unfold b_X6_image_0 at h
  refine lv_aload_n hx hb dX6_image_0 rfl (lv_at hl 0 rfl) ?_
  refine lv_iconst (v := 1) hx hb dX6_image_1 (by decide) ?_
  refine pf_6_14 C hP hD hS (iL (by decide)) (by decide) rfl rfl wd_896 dX6_image_2 (fun H locs hP hD hS => ?_)
  exact w_X6_image_5 C hP hD hS hl h
def f_X6_image (N : Nat) (M : Mem) : Option (Int32 × Mem) := b_X6_image_0 N M
theorem c_X6_image {l : Launch} {D : va_G} {cy : Nat → ClassId} {ad : Nat → Nat} {zz : (Nat → Nat) × (Nat → Nat)} {N : Nat} {M : Mem} {rr : Int32} {M' : Mem} (h : f_X6_image N M = some (rr, M')) : CTi l D cy ad zz 100 21 yX6_image (.code yX6_image cX6_image 2 (some .int) :: tb) ({ frames := 0, cells := 0, slots := 0, locals := 0 } : Room) [.ref (ad 100)] M rr M' := by
  intro sz
  refine CX.of (by decide +kernel) (fun p e s m args below meth c H ls C hP hD hS hl => ?_) (Nat.le_of_ble_eq_true rfl)
  exact w_X6_image_0 C hP hD hS hl h
theorem ev_X6_image : yX6_image.cls = RX6 ∧ yX6_image.cls ≠ "java/lang/invoke/MethodHandle" ∧ yX6_image.cls ≠ "java/lang/invoke/VarHandle" ∧ (parseMethodDescriptor yX6_image.desc).map (fun d => d.parameters.length) = some 0 := by decide +kernel
def b_X6_back_132 (N : Nat) (M : Mem) : Option (Int32 × Mem) := some ((FI M 100 0), M)
set_option maxHeartbeats 4000000 in
set_option maxRecDepth 100000 in
theorem w_X6_back_132 (C : CX p s m args meth c cX6_back 2 (some .int) RX6 D cy ad zz 100 21 A) {N : Nat} {M : Mem} {rr : Int32} {M' : Mem} {H : Heap} {locs : List Loc} (hP : va_P D vwCl (pool cy ad 100 21 M) H) (hD : va_D A (pool cy ad 100 21 M)) (hS : va_S A s.heap H locs) {ls : Array Slot} (hl : lv_has ls 2 [(0, .ref (ad 100))]) (h : b_X6_back_132 N M = some (rr, M')) : W p l e ({ frames := 0, cells := 0, slots := 0, locals := 0 } : Room) s m args below meth c H locs 0 0 (MQ below (va_Qi (fun (x : Int32) (_ : Unit) => x = rr) (fun _ t => PA D cy ad 100 21 A M' t) A) args s 0 0 A) (F0 m 132 ls []) := by
  obtain ⟨hx, hb, hml, hown, hts, hr, hlk, hK, hN, hA, hX⟩ := id C
  unfold b_X6_back_132 at h
  refine lv_aload_n hx hb dX6_back_132 rfl (lv_at hl 0 rfl) ?_
  refine gf_6_0 C hP (iL (by decide)) (by decide) wd_882 dX6_back_133 ?_
  exact rt_i (r := (FI M 100 0)) C hP hD hS dX6_back_136 (rw_end h)
def b_X6_back_122 (N : Nat) (M : Mem) : Option (Int32 × Mem) := b_X6_back_132 N (sFI M 100 13 (AI M 110 (2 : Int32).toNatClampNeg))
set_option maxHeartbeats 4000000 in
set_option maxRecDepth 100000 in
theorem w_X6_back_122 (C : CX p s m args meth c cX6_back 2 (some .int) RX6 D cy ad zz 100 21 A) {N : Nat} {M : Mem} {rr : Int32} {M' : Mem} {H : Heap} {locs : List Loc} (hP : va_P D vwCl (pool cy ad 100 21 M) H) (hD : va_D A (pool cy ad 100 21 M)) (hS : va_S A s.heap H locs) {ls : Array Slot} (hl : lv_has ls 2 [(0, .ref (ad 100))]) (h : b_X6_back_122 N M = some (rr, M')) : W p l e ({ frames := 0, cells := 0, slots := 0, locals := 0 } : Room) s m args below meth c H locs 0 0 (MQ below (va_Qi (fun (x : Int32) (_ : Unit) => x = rr) (fun _ t => PA D cy ad 100 21 A M' t) A) args s 0 0 A) (F0 m 122 ls []) := by
  obtain ⟨hx, hb, hml, hown, hts, hr, hlk, hK, hN, hA, hX⟩ := id C
  unfold b_X6_back_122 at h
  refine lv_aload_n hx hb dX6_back_122 rfl (lv_at hl 0 rfl) ?_
  refine lv_aload_n hx hb dX6_back_123 rfl (lv_at hl 0 rfl) ?_
  refine gf_6_17 C hP (iL (by decide)) (by decide) wd_899 dX6_back_124 ?_
  refine lv_iconst (v := 2) hx hb dX6_back_127 (by decide) ?_
  refine ia_ld C hP (iL (by decide)) (by decide) (by decide) dX6_back_128 ?_
  refine pf_6_13 C hP hD hS (iL (by decide)) (by decide) wd_895 dX6_back_129 (fun H locs hP hD hS => ?_)
  exact w_X6_back_132 C hP hD hS hl h
def b_X6_back_112 (N : Nat) (M : Mem) : Option (Int32 × Mem) := b_X6_back_122 N (sFI M 100 7 (AI M 110 (1 : Int32).toNatClampNeg))
set_option maxHeartbeats 4000000 in
set_option maxRecDepth 100000 in
theorem w_X6_back_112 (C : CX p s m args meth c cX6_back 2 (some .int) RX6 D cy ad zz 100 21 A) {N : Nat} {M : Mem} {rr : Int32} {M' : Mem} {H : Heap} {locs : List Loc} (hP : va_P D vwCl (pool cy ad 100 21 M) H) (hD : va_D A (pool cy ad 100 21 M)) (hS : va_S A s.heap H locs) {ls : Array Slot} (hl : lv_has ls 2 [(0, .ref (ad 100))]) (h : b_X6_back_112 N M = some (rr, M')) : W p l e ({ frames := 0, cells := 0, slots := 0, locals := 0 } : Room) s m args below meth c H locs 0 0 (MQ below (va_Qi (fun (x : Int32) (_ : Unit) => x = rr) (fun _ t => PA D cy ad 100 21 A M' t) A) args s 0 0 A) (F0 m 112 ls []) := by
  obtain ⟨hx, hb, hml, hown, hts, hr, hlk, hK, hN, hA, hX⟩ := id C
  unfold b_X6_back_112 at h
  refine lv_aload_n hx hb dX6_back_112 rfl (lv_at hl 0 rfl) ?_
  refine lv_aload_n hx hb dX6_back_113 rfl (lv_at hl 0 rfl) ?_
  refine gf_6_17 C hP (iL (by decide)) (by decide) wd_899 dX6_back_114 ?_
  refine lv_iconst (v := 1) hx hb dX6_back_117 (by decide) ?_
  refine ia_ld C hP (iL (by decide)) (by decide) (by decide) dX6_back_118 ?_
  refine pf_6_7 C hP hD hS (iL (by decide)) (by decide) wd_889 dX6_back_119 (fun H locs hP hD hS => ?_)
  exact w_X6_back_122 C hP hD hS hl h
def b_X6_back_102 (N : Nat) (M : Mem) : Option (Int32 × Mem) := b_X6_back_112 N (sFI M 100 0 (AI M 110 (0 : Int32).toNatClampNeg))
set_option maxHeartbeats 4000000 in
set_option maxRecDepth 100000 in
theorem w_X6_back_102 (C : CX p s m args meth c cX6_back 2 (some .int) RX6 D cy ad zz 100 21 A) {N : Nat} {M : Mem} {rr : Int32} {M' : Mem} {H : Heap} {locs : List Loc} (hP : va_P D vwCl (pool cy ad 100 21 M) H) (hD : va_D A (pool cy ad 100 21 M)) (hS : va_S A s.heap H locs) {ls : Array Slot} (hl : lv_has ls 2 [(0, .ref (ad 100))]) (h : b_X6_back_102 N M = some (rr, M')) : W p l e ({ frames := 0, cells := 0, slots := 0, locals := 0 } : Room) s m args below meth c H locs 0 0 (MQ below (va_Qi (fun (x : Int32) (_ : Unit) => x = rr) (fun _ t => PA D cy ad 100 21 A M' t) A) args s 0 0 A) (F0 m 102 ls []) := by
  obtain ⟨hx, hb, hml, hown, hts, hr, hlk, hK, hN, hA, hX⟩ := id C
  unfold b_X6_back_102 at h
  refine lv_aload_n hx hb dX6_back_102 rfl (lv_at hl 0 rfl) ?_
  refine lv_aload_n hx hb dX6_back_103 rfl (lv_at hl 0 rfl) ?_
  refine gf_6_17 C hP (iL (by decide)) (by decide) wd_899 dX6_back_104 ?_
  refine lv_iconst (v := 0) hx hb dX6_back_107 (by decide) ?_
  refine ia_ld C hP (iL (by decide)) (by decide) (by decide) dX6_back_108 ?_
  refine pf_6_0 C hP hD hS (iL (by decide)) (by decide) wd_882 dX6_back_109 (fun H locs hP hD hS => ?_)
  exact w_X6_back_112 C hP hD hS hl h
def b_X6_back_88 (N : Nat) (k67 : Int32 → Mem → Option (Int32 × Mem)) (x1 : Int32) (M : Mem) : Option (Int32 × Mem) := k67 (x1 + (1 : Int32)) M
set_option maxHeartbeats 4000000 in
set_option maxRecDepth 100000 in
theorem w_X6_back_88 (C : CX p s m args meth c cX6_back 2 (some .int) RX6 D cy ad zz 100 21 A) {N : Nat} {M : Mem} {k67 : Int32 → Mem → Option (Int32 × Mem)} {rr : Int32} {M' : Mem} (hk67 : ∀ (x1 : Int32), ∀ (M : Mem), ∀ (H : Heap) (locs : List Loc), va_P D vwCl (pool cy ad 100 21 M) H → va_D A (pool cy ad 100 21 M) → va_S A s.heap H locs → ∀ (ls : Array Slot), lv_has ls 2 [(0, .ref (ad 100)), (1, .int x1)] → k67 x1 M = some (rr, M') → W p l e ({ frames := 0, cells := 0, slots := 0, locals := 0 } : Room) s m args below meth c H locs 0 0 (MQ below (va_Qi (fun (x : Int32) (_ : Unit) => x = rr) (fun _ t => PA D cy ad 100 21 A M' t) A) args s 0 0 A) (F0 m 67 ls [])) {x1 : Int32} {H : Heap} {locs : List Loc} (hP : va_P D vwCl (pool cy ad 100 21 M) H) (hD : va_D A (pool cy ad 100 21 M)) (hS : va_S A s.heap H locs) {ls : Array Slot} (hl : lv_has ls 2 [(0, .ref (ad 100)), (1, .int x1)]) (h : b_X6_back_88 N k67 x1 M = some (rr, M')) : W p l e ({ frames := 0, cells := 0, slots := 0, locals := 0 } : Room) s m args below meth c H locs 0 0 (MQ below (va_Qi (fun (x : Int32) (_ : Unit) => x = rr) (fun _ t => PA D cy ad 100 21 A M' t) A) args s 0 0 A) (F0 m 88 ls []) := by
  obtain ⟨hx, hb, hml, hown, hts, hr, hlk, hK, hN, hA, hX⟩ := id C
  unfold b_X6_back_88 at h
  refine lv_iinc (v := (x1 + (1 : Int32))) (lv' := [(1, .int (x1 + (1 : Int32))), (0, .ref (ad 100))]) hx hb dX6_back_88 hl (k := 1) rfl rfl (by decide) rfl (fun ls hl => ?_)
  refine lv_goto (tgt := 67) hx hb dX6_back_91 (by decide) ?_
  exact hk67 _ _ _ _ hP hD hS _ (lv_sub hl [1, 0] rfl) h
def b_X6_back_67 (N : Nat) : Nat → Int32 → Mem → Option (Int32 × Mem)
  | 0, _, _ => none
  | fu + 1, x1, M => (if (6 : Int32) ≤ x1 then b_X6_back_102 N (sFJ M 100 6 (FJ M 100 16)) else gd (inb ((126 : Int32) + x1) (len 109)) (gd (inb x1 (len 105)) (b_X6_back_88 N (b_X6_back_67 N fu) x1 (sAI M 105 x1.toNatClampNeg (AI M 109 ((126 : Int32) + x1).toNatClampNeg)))))
set_option maxHeartbeats 4000000 in
set_option maxRecDepth 100000 in
theorem w_X6_back_67 (C : CX p s m args meth c cX6_back 2 (some .int) RX6 D cy ad zz 100 21 A) {N : Nat} {rr : Int32} {M' : Mem}  : ∀ (fu : Nat), ∀ (x1 : Int32), ∀ (M : Mem), ∀ (H : Heap) (locs : List Loc), va_P D vwCl (pool cy ad 100 21 M) H → va_D A (pool cy ad 100 21 M) → va_S A s.heap H locs → ∀ (ls : Array Slot), lv_has ls 2 [(0, .ref (ad 100)), (1, .int x1)] → b_X6_back_67 N fu x1 M = some (rr, M') → W p l e ({ frames := 0, cells := 0, slots := 0, locals := 0 } : Room) s m args below meth c H locs 0 0 (MQ below (va_Qi (fun (x : Int32) (_ : Unit) => x = rr) (fun _ t => PA D cy ad 100 21 A M' t) A) args s 0 0 A) (F0 m 67 ls []) := by
  obtain ⟨hx, hb, hml, hown, hts, hr, hlk, hK, hN, hA, hX⟩ := id C
  intro fu
  induction fu with
  | zero =>
    intro x1 M H locs hP hD hS ls hl h
    exact no_some (show none = some _ from h)
  | succ fu ih =>
    intro x1 M H locs hP hD hS ls hl h
    rw [b_X6_back_67] at h
    refine lv_iload_n hx hb dX6_back_67 rfl (lv_at hl 1 rfl) ?_
    refine lv_bipush (v := 6) hx hb dX6_back_68 (by decide) ?_
    refine lv_icmp_ge (tgt := 94) hx hb dX6_back_70 (by decide) (fun c70 => ?_) (fun c70 => ?_)
    · replace h := it_t c70 h
      refine lv_aload_n hx hb dX6_back_94 rfl (lv_at hl 0 rfl) ?_
      refine lv_aload_n hx hb dX6_back_95 rfl (lv_at hl 0 rfl) ?_
      refine gf_6_16 C hP (iL (by decide)) (by decide) wd_898 dX6_back_96 ?_
      refine pf_6_6 C hP hD hS (iL (by decide)) (by decide) wd_888 dX6_back_99 (fun H locs hP hD hS => ?_)
      exact w_X6_back_102 C hP hD hS (lv_sub hl [0] rfl) h
    · replace h := it_f c70 h
      refine lv_aload_n hx hb dX6_back_73 rfl (lv_at hl 0 rfl) ?_
      refine gf_6_5 C hP (iL (by decide)) (by decide) wd_887 dX6_back_74 ?_
      refine lv_iload_n hx hb dX6_back_77 rfl (lv_at hl 1 rfl) ?_
      refine lv_aload_n hx hb dX6_back_78 rfl (lv_at hl 0 rfl) ?_
      refine gf_6_15 C hP (iL (by decide)) (by decide) wd_897 dX6_back_79 ?_
      refine lv_bipush (v := 126) hx hb dX6_back_82 (by decide) ?_
      refine lv_iload_n hx hb dX6_back_84 rfl (lv_at hl 1 rfl) ?_
      refine lv_iadd hx hb dX6_back_85 ?_
      obtain ⟨gi1, h⟩ := gd_of h
      refine ia_ld C hP (iL (by decide)) (by decide) gi1 dX6_back_86 ?_
      obtain ⟨gi2, h⟩ := gd_of h
      refine ia_st C hP hD hS (iL (by decide)) (by decide) gi2 dX6_back_87 (fun H locs hP hD hS => ?_)
      exact w_X6_back_88 C ih hP hD hS hl h
def b_X6_back_59 (N : Nat) (k38 : Int32 → Mem → Option (Int32 × Mem)) (x1 : Int32) (M : Mem) : Option (Int32 × Mem) := k38 (x1 + (1 : Int32)) M
set_option maxHeartbeats 4000000 in
set_option maxRecDepth 100000 in
theorem w_X6_back_59 (C : CX p s m args meth c cX6_back 2 (some .int) RX6 D cy ad zz 100 21 A) {N : Nat} {M : Mem} {k38 : Int32 → Mem → Option (Int32 × Mem)} {rr : Int32} {M' : Mem} (hk38 : ∀ (x1 : Int32), ∀ (M : Mem), ∀ (H : Heap) (locs : List Loc), va_P D vwCl (pool cy ad 100 21 M) H → va_D A (pool cy ad 100 21 M) → va_S A s.heap H locs → ∀ (ls : Array Slot), lv_has ls 2 [(0, .ref (ad 100)), (1, .int x1)] → k38 x1 M = some (rr, M') → W p l e ({ frames := 0, cells := 0, slots := 0, locals := 0 } : Room) s m args below meth c H locs 0 0 (MQ below (va_Qi (fun (x : Int32) (_ : Unit) => x = rr) (fun _ t => PA D cy ad 100 21 A M' t) A) args s 0 0 A) (F0 m 38 ls [])) {x1 : Int32} {H : Heap} {locs : List Loc} (hP : va_P D vwCl (pool cy ad 100 21 M) H) (hD : va_D A (pool cy ad 100 21 M)) (hS : va_S A s.heap H locs) {ls : Array Slot} (hl : lv_has ls 2 [(0, .ref (ad 100)), (1, .int x1)]) (h : b_X6_back_59 N k38 x1 M = some (rr, M')) : W p l e ({ frames := 0, cells := 0, slots := 0, locals := 0 } : Room) s m args below meth c H locs 0 0 (MQ below (va_Qi (fun (x : Int32) (_ : Unit) => x = rr) (fun _ t => PA D cy ad 100 21 A M' t) A) args s 0 0 A) (F0 m 59 ls []) := by
  obtain ⟨hx, hb, hml, hown, hts, hr, hlk, hK, hN, hA, hX⟩ := id C
  unfold b_X6_back_59 at h
  refine lv_iinc (v := (x1 + (1 : Int32))) (lv' := [(1, .int (x1 + (1 : Int32))), (0, .ref (ad 100))]) hx hb dX6_back_59 hl (k := 1) rfl rfl (by decide) rfl (fun ls hl => ?_)
  refine lv_goto (tgt := 38) hx hb dX6_back_62 (by decide) ?_
  exact hk38 _ _ _ _ hP hD hS _ (lv_sub hl [1, 0] rfl) h
def b_X6_back_38 (N : Nat) : Nat → Int32 → Mem → Option (Int32 × Mem)
  | 0, _, _ => none
  | fu + 1, x1, M => (if (96 : Int32) ≤ x1 then b_X6_back_67 N N (0 : Int32) M else gd (inb ((30 : Int32) + x1) (len 109)) (gd (inb x1 (len 104)) (b_X6_back_59 N (b_X6_back_38 N fu) x1 (sAI M 104 x1.toNatClampNeg (AI M 109 ((30 : Int32) + x1).toNatClampNeg)))))
set_option maxHeartbeats 4000000 in
set_option maxRecDepth 100000 in
theorem w_X6_back_38 (C : CX p s m args meth c cX6_back 2 (some .int) RX6 D cy ad zz 100 21 A) {N : Nat} {rr : Int32} {M' : Mem}  : ∀ (fu : Nat), ∀ (x1 : Int32), ∀ (M : Mem), ∀ (H : Heap) (locs : List Loc), va_P D vwCl (pool cy ad 100 21 M) H → va_D A (pool cy ad 100 21 M) → va_S A s.heap H locs → ∀ (ls : Array Slot), lv_has ls 2 [(0, .ref (ad 100)), (1, .int x1)] → b_X6_back_38 N fu x1 M = some (rr, M') → W p l e ({ frames := 0, cells := 0, slots := 0, locals := 0 } : Room) s m args below meth c H locs 0 0 (MQ below (va_Qi (fun (x : Int32) (_ : Unit) => x = rr) (fun _ t => PA D cy ad 100 21 A M' t) A) args s 0 0 A) (F0 m 38 ls []) := by
  obtain ⟨hx, hb, hml, hown, hts, hr, hlk, hK, hN, hA, hX⟩ := id C
  intro fu
  induction fu with
  | zero =>
    intro x1 M H locs hP hD hS ls hl h
    exact no_some (show none = some _ from h)
  | succ fu ih =>
    intro x1 M H locs hP hD hS ls hl h
    rw [b_X6_back_38] at h
    refine lv_iload_n hx hb dX6_back_38 rfl (lv_at hl 1 rfl) ?_
    refine lv_bipush (v := 96) hx hb dX6_back_39 (by decide) ?_
    refine lv_icmp_ge (tgt := 65) hx hb dX6_back_41 (by decide) (fun c41 => ?_) (fun c41 => ?_)
    · replace h := it_t c41 h
      refine lv_iconst (v := 0) hx hb dX6_back_65 (by decide) ?_
      refine lv_istore_n (lv' := [(1, .int (0 : Int32)), (0, .ref (ad 100))]) hx hb dX6_back_66 rfl hl (by decide) rfl (fun ls hl => ?_)
      exact w_X6_back_67 C N _ _ _ _ hP hD hS _ (lv_sub hl [1, 0] rfl) h
    · replace h := it_f c41 h
      refine lv_aload_n hx hb dX6_back_44 rfl (lv_at hl 0 rfl) ?_
      refine gf_6_4 C hP (iL (by decide)) (by decide) wd_886 dX6_back_45 ?_
      refine lv_iload_n hx hb dX6_back_48 rfl (lv_at hl 1 rfl) ?_
      refine lv_aload_n hx hb dX6_back_49 rfl (lv_at hl 0 rfl) ?_
      refine gf_6_15 C hP (iL (by decide)) (by decide) wd_897 dX6_back_50 ?_
      refine lv_bipush (v := 30) hx hb dX6_back_53 (by decide) ?_
      refine lv_iload_n hx hb dX6_back_55 rfl (lv_at hl 1 rfl) ?_
      refine lv_iadd hx hb dX6_back_56 ?_
      obtain ⟨gi1, h⟩ := gd_of h
      refine ia_ld C hP (iL (by decide)) (by decide) gi1 dX6_back_57 ?_
      obtain ⟨gi2, h⟩ := gd_of h
      refine ia_st C hP hD hS (iL (by decide)) (by decide) gi2 dX6_back_58 (fun H locs hP hD hS => ?_)
      exact w_X6_back_59 C ih hP hD hS hl h
def b_X6_back_30 (N : Nat) (k12 : Int32 → Mem → Option (Int32 × Mem)) (x1 : Int32) (M : Mem) : Option (Int32 × Mem) := k12 (x1 + (1 : Int32)) M
set_option maxHeartbeats 4000000 in
set_option maxRecDepth 100000 in
theorem w_X6_back_30 (C : CX p s m args meth c cX6_back 2 (some .int) RX6 D cy ad zz 100 21 A) {N : Nat} {M : Mem} {k12 : Int32 → Mem → Option (Int32 × Mem)} {rr : Int32} {M' : Mem} (hk12 : ∀ (x1 : Int32), ∀ (M : Mem), ∀ (H : Heap) (locs : List Loc), va_P D vwCl (pool cy ad 100 21 M) H → va_D A (pool cy ad 100 21 M) → va_S A s.heap H locs → ∀ (ls : Array Slot), lv_has ls 2 [(0, .ref (ad 100)), (1, .int x1)] → k12 x1 M = some (rr, M') → W p l e ({ frames := 0, cells := 0, slots := 0, locals := 0 } : Room) s m args below meth c H locs 0 0 (MQ below (va_Qi (fun (x : Int32) (_ : Unit) => x = rr) (fun _ t => PA D cy ad 100 21 A M' t) A) args s 0 0 A) (F0 m 12 ls [])) {x1 : Int32} {H : Heap} {locs : List Loc} (hP : va_P D vwCl (pool cy ad 100 21 M) H) (hD : va_D A (pool cy ad 100 21 M)) (hS : va_S A s.heap H locs) {ls : Array Slot} (hl : lv_has ls 2 [(0, .ref (ad 100)), (1, .int x1)]) (h : b_X6_back_30 N k12 x1 M = some (rr, M')) : W p l e ({ frames := 0, cells := 0, slots := 0, locals := 0 } : Room) s m args below meth c H locs 0 0 (MQ below (va_Qi (fun (x : Int32) (_ : Unit) => x = rr) (fun _ t => PA D cy ad 100 21 A M' t) A) args s 0 0 A) (F0 m 30 ls []) := by
  obtain ⟨hx, hb, hml, hown, hts, hr, hlk, hK, hN, hA, hX⟩ := id C
  unfold b_X6_back_30 at h
  refine lv_iinc (v := (x1 + (1 : Int32))) (lv' := [(1, .int (x1 + (1 : Int32))), (0, .ref (ad 100))]) hx hb dX6_back_30 hl (k := 1) rfl rfl (by decide) rfl (fun ls hl => ?_)
  refine lv_goto (tgt := 12) hx hb dX6_back_33 (by decide) ?_
  exact hk12 _ _ _ _ hP hD hS _ (lv_sub hl [1, 0] rfl) h
def b_X6_back_12 (N : Nat) : Nat → Int32 → Mem → Option (Int32 × Mem)
  | 0, _, _ => none
  | fu + 1, x1, M => (if (30 : Int32) ≤ x1 then b_X6_back_38 N N (0 : Int32) M else gd (inb x1 (len 109)) (gd (inb x1 (len 103)) (b_X6_back_30 N (b_X6_back_12 N fu) x1 (sAI M 103 x1.toNatClampNeg (AI M 109 x1.toNatClampNeg)))))
set_option maxHeartbeats 4000000 in
set_option maxRecDepth 100000 in
theorem w_X6_back_12 (C : CX p s m args meth c cX6_back 2 (some .int) RX6 D cy ad zz 100 21 A) {N : Nat} {rr : Int32} {M' : Mem}  : ∀ (fu : Nat), ∀ (x1 : Int32), ∀ (M : Mem), ∀ (H : Heap) (locs : List Loc), va_P D vwCl (pool cy ad 100 21 M) H → va_D A (pool cy ad 100 21 M) → va_S A s.heap H locs → ∀ (ls : Array Slot), lv_has ls 2 [(0, .ref (ad 100)), (1, .int x1)] → b_X6_back_12 N fu x1 M = some (rr, M') → W p l e ({ frames := 0, cells := 0, slots := 0, locals := 0 } : Room) s m args below meth c H locs 0 0 (MQ below (va_Qi (fun (x : Int32) (_ : Unit) => x = rr) (fun _ t => PA D cy ad 100 21 A M' t) A) args s 0 0 A) (F0 m 12 ls []) := by
  obtain ⟨hx, hb, hml, hown, hts, hr, hlk, hK, hN, hA, hX⟩ := id C
  intro fu
  induction fu with
  | zero =>
    intro x1 M H locs hP hD hS ls hl h
    exact no_some (show none = some _ from h)
  | succ fu ih =>
    intro x1 M H locs hP hD hS ls hl h
    rw [b_X6_back_12] at h
    refine lv_iload_n hx hb dX6_back_12 rfl (lv_at hl 1 rfl) ?_
    refine lv_bipush (v := 30) hx hb dX6_back_13 (by decide) ?_
    refine lv_icmp_ge (tgt := 36) hx hb dX6_back_15 (by decide) (fun c15 => ?_) (fun c15 => ?_)
    · replace h := it_t c15 h
      refine lv_iconst (v := 0) hx hb dX6_back_36 (by decide) ?_
      refine lv_istore_n (lv' := [(1, .int (0 : Int32)), (0, .ref (ad 100))]) hx hb dX6_back_37 rfl hl (by decide) rfl (fun ls hl => ?_)
      exact w_X6_back_38 C N _ _ _ _ hP hD hS _ (lv_sub hl [1, 0] rfl) h
    · replace h := it_f c15 h
      refine lv_aload_n hx hb dX6_back_18 rfl (lv_at hl 0 rfl) ?_
      refine gf_6_3 C hP (iL (by decide)) (by decide) wd_885 dX6_back_19 ?_
      refine lv_iload_n hx hb dX6_back_22 rfl (lv_at hl 1 rfl) ?_
      refine lv_aload_n hx hb dX6_back_23 rfl (lv_at hl 0 rfl) ?_
      refine gf_6_15 C hP (iL (by decide)) (by decide) wd_897 dX6_back_24 ?_
      refine lv_iload_n hx hb dX6_back_27 rfl (lv_at hl 1 rfl) ?_
      obtain ⟨gi1, h⟩ := gd_of h
      refine ia_ld C hP (iL (by decide)) (by decide) gi1 dX6_back_28 ?_
      obtain ⟨gi2, h⟩ := gd_of h
      refine ia_st C hP hD hS (iL (by decide)) (by decide) gi2 dX6_back_29 (fun H locs hP hD hS => ?_)
      exact w_X6_back_30 C ih hP hD hS hl h
def b_X6_back_0 (N : Nat) (M : Mem) : Option (Int32 × Mem) := (if (FI M 100 14) = 0 then some ((-3 : Int32), M) else b_X6_back_12 N N (0 : Int32) M)
set_option maxHeartbeats 4000000 in
set_option maxRecDepth 100000 in
theorem w_X6_back_0 (C : CX p s m args meth c cX6_back 2 (some .int) RX6 D cy ad zz 100 21 A) {N : Nat} {M : Mem} {rr : Int32} {M' : Mem} {H : Heap} {locs : List Loc} (hP : va_P D vwCl (pool cy ad 100 21 M) H) (hD : va_D A (pool cy ad 100 21 M)) (hS : va_S A s.heap H locs) {ls : Array Slot} (hl : lv_has ls 2 [(0, .ref (ad 100))]) (h : b_X6_back_0 N M = some (rr, M')) : W p l e ({ frames := 0, cells := 0, slots := 0, locals := 0 } : Room) s m args below meth c H locs 0 0 (MQ below (va_Qi (fun (x : Int32) (_ : Unit) => x = rr) (fun _ t => PA D cy ad 100 21 A M' t) A) args s 0 0 A) (F0 m 0 ls []) := by
  obtain ⟨hx, hb, hml, hown, hts, hr, hlk, hK, hN, hA, hX⟩ := id C
  unfold b_X6_back_0 at h
  refine lv_aload_n hx hb dX6_back_0 rfl (lv_at hl 0 rfl) ?_
  refine gf_6_14 C hP (iL (by decide)) (by decide) wd_896 dX6_back_1 ?_
  refine lv_if_ne (tgt := 10) hx hb dX6_back_4 (by decide) (fun c4 => ?_) (fun c4 => ?_)
  · replace h := it_f c4 h
    refine lv_iconst (v := 0) hx hb dX6_back_10 (by decide) ?_
    refine lv_istore_n (lv' := [(1, .int (0 : Int32)), (0, .ref (ad 100))]) hx hb dX6_back_11 rfl hl (by decide) rfl (fun ls hl => ?_)
    exact w_X6_back_12 C N _ _ _ _ hP hD hS _ (lv_sub hl [1, 0] rfl) h
  · replace h := it_t c4 h
    refine lv_bipush (v := -3) hx hb dX6_back_7 (by decide) ?_
    exact rt_i (r := (-3 : Int32)) C hP hD hS dX6_back_9 (rw_end h)
def f_X6_back (N : Nat) (M : Mem) : Option (Int32 × Mem) := b_X6_back_0 N M
theorem c_X6_back {l : Launch} {D : va_G} {cy : Nat → ClassId} {ad : Nat → Nat} {zz : (Nat → Nat) × (Nat → Nat)} {N : Nat} {M : Mem} {rr : Int32} {M' : Mem} (h : f_X6_back N M = some (rr, M')) : CTi l D cy ad zz 100 21 yX6_back (.code yX6_back cX6_back 2 (some .int) :: tb) ({ frames := 0, cells := 0, slots := 0, locals := 0 } : Room) [.ref (ad 100)] M rr M' := by
  intro sz
  refine CX.of (by decide +kernel) (fun p e s m args below meth c H ls C hP hD hS hl => ?_) (Nat.le_of_ble_eq_true rfl)
  exact w_X6_back_0 C hP hD hS hl h
theorem ev_X6_back : yX6_back.cls = RX6 ∧ yX6_back.cls ≠ "java/lang/invoke/MethodHandle" ∧ yX6_back.cls ≠ "java/lang/invoke/VarHandle" ∧ (parseMethodDescriptor yX6_back.desc).map (fun d => d.parameters.length) = some 0 := by decide +kernel
def b_X6_sheet_90 (N : Nat) (x1 : Int32) (x2 : Int32) (x3 : Int32) (k70 : Int32 → Mem → Option (Int32 × Mem)) (x4 : Int32) (M : Mem) : Option (Int32 × Mem) := k70 (x4 + (1 : Int32)) M
set_option maxHeartbeats 4000000 in
set_option maxRecDepth 100000 in
theorem w_X6_sheet_90 (C : CX p s m args meth c cX6_sheet 5 (some .int) RX6 D cy ad zz 100 21 A) {N : Nat} {M : Mem} {x1 : Int32} {x2 : Int32} {x3 : Int32} {k70 : Int32 → Mem → Option (Int32 × Mem)} {rr : Int32} {M' : Mem} (hk70 : ∀ (x4 : Int32), ∀ (M : Mem), ∀ (H : Heap) (locs : List Loc), va_P D vwCl (pool cy ad 100 21 M) H → va_D A (pool cy ad 100 21 M) → va_S A s.heap H locs → ∀ (ls : Array Slot), lv_has ls 5 [(0, .ref (ad 100)), (1, .int x1), (4, .int x4)] → k70 x4 M = some (rr, M') → W p l e ({ frames := 1, cells := 0, slots := 0, locals := 22 } : Room) s m args below meth c H locs 0 0 (MQ below (va_Qi (fun (x : Int32) (_ : Unit) => x = rr) (fun _ t => PA D cy ad 100 21 A M' t) A) args s 0 0 A) (F0 m 70 ls [])) {x4 : Int32} {H : Heap} {locs : List Loc} (hP : va_P D vwCl (pool cy ad 100 21 M) H) (hD : va_D A (pool cy ad 100 21 M)) (hS : va_S A s.heap H locs) {ls : Array Slot} (hl : lv_has ls 5 [(0, .ref (ad 100)), (1, .int x1), (4, .int x4)]) (h : b_X6_sheet_90 N x1 x2 x3 k70 x4 M = some (rr, M')) : W p l e ({ frames := 1, cells := 0, slots := 0, locals := 22 } : Room) s m args below meth c H locs 0 0 (MQ below (va_Qi (fun (x : Int32) (_ : Unit) => x = rr) (fun _ t => PA D cy ad 100 21 A M' t) A) args s 0 0 A) (F0 m 90 ls []) := by
  obtain ⟨hx, hb, hml, hown, hts, hr, hlk, hK, hN, hA, hX⟩ := id C
  unfold b_X6_sheet_90 at h
  refine lv_iinc (v := (x4 + (1 : Int32))) (lv' := [(4, .int (x4 + (1 : Int32))), (0, .ref (ad 100)), (1, .int x1)]) hx hb dX6_sheet_90 hl (k := 2) rfl rfl (by decide) rfl (fun ls hl => ?_)
  refine lv_goto (tgt := 70) hx hb dX6_sheet_93 (by decide) ?_
  exact hk70 _ _ _ _ hP hD hS _ (lv_sub hl [1, 2, 0] rfl) h
def b_X6_sheet_70 (N : Nat) (x1 : Int32) (x2 : Int32) (x3 : Int32) : Nat → Int32 → Mem → Option (Int32 × Mem)
  | 0, _, _ => none
  | fu + 1, x4, M => (if (40 : Int32) ≤ x4 then some ((1 : Int32), M) else gd (inb (((40 : Int32) * x1) + x4) (len 113)) (b_X6_sheet_90 N x1 x2 x3 (b_X6_sheet_70 N x1 x2 x3 fu) x4 (sAI M 113 (((40 : Int32) * x1) + x4).toNatClampNeg (0 : Int32))))
set_option maxHeartbeats 4000000 in
set_option maxRecDepth 100000 in
theorem w_X6_sheet_70 (C : CX p s m args meth c cX6_sheet 5 (some .int) RX6 D cy ad zz 100 21 A) {N : Nat} {x1 : Int32} {x2 : Int32} {x3 : Int32} {rr : Int32} {M' : Mem}  : ∀ (fu : Nat), ∀ (x4 : Int32), ∀ (M : Mem), ∀ (H : Heap) (locs : List Loc), va_P D vwCl (pool cy ad 100 21 M) H → va_D A (pool cy ad 100 21 M) → va_S A s.heap H locs → ∀ (ls : Array Slot), lv_has ls 5 [(0, .ref (ad 100)), (1, .int x1), (4, .int x4)] → b_X6_sheet_70 N x1 x2 x3 fu x4 M = some (rr, M') → W p l e ({ frames := 1, cells := 0, slots := 0, locals := 22 } : Room) s m args below meth c H locs 0 0 (MQ below (va_Qi (fun (x : Int32) (_ : Unit) => x = rr) (fun _ t => PA D cy ad 100 21 A M' t) A) args s 0 0 A) (F0 m 70 ls []) := by
  obtain ⟨hx, hb, hml, hown, hts, hr, hlk, hK, hN, hA, hX⟩ := id C
  intro fu
  induction fu with
  | zero =>
    intro x4 M H locs hP hD hS ls hl h
    exact no_some (show none = some _ from h)
  | succ fu ih =>
    intro x4 M H locs hP hD hS ls hl h
    rw [b_X6_sheet_70] at h
    refine lv_iload hx hb dX6_sheet_70 (lv_at hl 2 rfl) ?_
    refine lv_bipush (v := 40) hx hb dX6_sheet_72 (by decide) ?_
    refine lv_icmp_ge (tgt := 96) hx hb dX6_sheet_74 (by decide) (fun c74 => ?_) (fun c74 => ?_)
    · replace h := it_t c74 h
      refine lv_iconst (v := 1) hx hb dX6_sheet_96 (by decide) ?_
      exact rt_i (r := (1 : Int32)) C hP hD hS dX6_sheet_97 (rw_end h)
    · replace h := it_f c74 h
      refine lv_aload_n hx hb dX6_sheet_77 rfl (lv_at hl 0 rfl) ?_
      refine gf_6_20 C hP (iL (by decide)) (by decide) wd_902 dX6_sheet_78 ?_
      refine lv_bipush (v := 40) hx hb dX6_sheet_81 (by decide) ?_
      refine lv_iload_n hx hb dX6_sheet_83 rfl (lv_at hl 1 rfl) ?_
      refine lv_imul hx hb dX6_sheet_84 ?_
      refine lv_iload hx hb dX6_sheet_85 (lv_at hl 2 rfl) ?_
      refine lv_iadd hx hb dX6_sheet_87 ?_
      refine lv_iconst (v := 0) hx hb dX6_sheet_88 (by decide) ?_
      obtain ⟨gi1, h⟩ := gd_of h
      refine ia_st C hP hD hS (iL (by decide)) (by decide) gi1 dX6_sheet_89 (fun H locs hP hD hS => ?_)
      exact w_X6_sheet_90 C ih hP hD hS hl h
def b_X6_sheet_67 (N : Nat) (x1 : Int32) (x2 : Int32) (x3 : Int32) (M : Mem) : Option (Int32 × Mem) := b_X6_sheet_70 N x1 x2 x3 N (0 : Int32) M
set_option maxHeartbeats 4000000 in
set_option maxRecDepth 100000 in
theorem w_X6_sheet_67 (C : CX p s m args meth c cX6_sheet 5 (some .int) RX6 D cy ad zz 100 21 A) {N : Nat} {M : Mem} {x1 : Int32} {x2 : Int32} {x3 : Int32} {rr : Int32} {M' : Mem} {H : Heap} {locs : List Loc} (hP : va_P D vwCl (pool cy ad 100 21 M) H) (hD : va_D A (pool cy ad 100 21 M)) (hS : va_S A s.heap H locs) {ls : Array Slot} (hl : lv_has ls 5 [(0, .ref (ad 100)), (1, .int x1)]) (h : b_X6_sheet_67 N x1 x2 x3 M = some (rr, M')) : W p l e ({ frames := 1, cells := 0, slots := 0, locals := 22 } : Room) s m args below meth c H locs 0 0 (MQ below (va_Qi (fun (x : Int32) (_ : Unit) => x = rr) (fun _ t => PA D cy ad 100 21 A M' t) A) args s 0 0 A) (F0 m 67 ls []) := by
  obtain ⟨hx, hb, hml, hown, hts, hr, hlk, hK, hN, hA, hX⟩ := id C
  unfold b_X6_sheet_67 at h
  refine lv_iconst (v := 0) hx hb dX6_sheet_67 (by decide) ?_
  refine lv_istore (lv' := [(4, .int (0 : Int32)), (0, .ref (ad 100)), (1, .int x1)]) hx hb dX6_sheet_68 hl (by decide) rfl (fun ls hl => ?_)
  exact w_X6_sheet_70 C N _ _ _ _ hP hD hS _ (lv_sub hl [1, 2, 0] rfl) h
def b_X6_sheet_66 (N : Nat) (x1 : Int32) (x2 : Int32) (x3 : Int32) (t1 : Int32) (t2 : Int32) (M : Mem) : Option (Int32 × Mem) := gd (inb t1 (len 112)) (b_X6_sheet_67 N x1 x2 x3 (sAI M 112 t1.toNatClampNeg t2))
set_option maxHeartbeats 4000000 in
set_option maxRecDepth 100000 in
theorem w_X6_sheet_66 (C : CX p s m args meth c cX6_sheet 5 (some .int) RX6 D cy ad zz 100 21 A) {N : Nat} {M : Mem} {x1 : Int32} {x2 : Int32} {x3 : Int32} {rr : Int32} {M' : Mem} {t1 : Int32} {t2 : Int32} {H : Heap} {locs : List Loc} (hP : va_P D vwCl (pool cy ad 100 21 M) H) (hD : va_D A (pool cy ad 100 21 M)) (hS : va_S A s.heap H locs) {ls : Array Slot} (hl : lv_has ls 5 [(0, .ref (ad 100)), (1, .int x1)]) (h : b_X6_sheet_66 N x1 x2 x3 t1 t2 M = some (rr, M')) : W p l e ({ frames := 1, cells := 0, slots := 0, locals := 22 } : Room) s m args below meth c H locs 0 0 (MQ below (va_Qi (fun (x : Int32) (_ : Unit) => x = rr) (fun _ t => PA D cy ad 100 21 A M' t) A) args s 0 0 A) (F0 m 66 ls [.int t2, .int t1, .ref (ad 112)]) := by
  obtain ⟨hx, hb, hml, hown, hts, hr, hlk, hK, hN, hA, hX⟩ := id C
  unfold b_X6_sheet_66 at h
  obtain ⟨gi1, h⟩ := gd_of h
  refine ia_st C hP hD hS (iL (by decide)) (by decide) gi1 dX6_sheet_66 (fun H locs hP hD hS => ?_)
  exact w_X6_sheet_67 C hP hD hS hl h
def b_X6_sheet_51 (N : Nat) (x1 : Int32) (x2 : Int32) (x3 : Int32) (M : Mem) : Option (Int32 × Mem) := (if x2 = (-1 : Int32) then b_X6_sheet_66 N x1 x2 x3 x1 (0 : Int32) M else b_X6_sheet_66 N x1 x2 x3 x1 x3 M)
set_option maxHeartbeats 4000000 in
set_option maxRecDepth 100000 in
theorem w_X6_sheet_51 (C : CX p s m args meth c cX6_sheet 5 (some .int) RX6 D cy ad zz 100 21 A) {N : Nat} {M : Mem} {x1 : Int32} {x2 : Int32} {x3 : Int32} {rr : Int32} {M' : Mem} {H : Heap} {locs : List Loc} (hP : va_P D vwCl (pool cy ad 100 21 M) H) (hD : va_D A (pool cy ad 100 21 M)) (hS : va_S A s.heap H locs) {ls : Array Slot} (hl : lv_has ls 5 [(0, .ref (ad 100)), (1, .int x1), (2, .int x2), (3, .int x3)]) (h : b_X6_sheet_51 N x1 x2 x3 M = some (rr, M')) : W p l e ({ frames := 1, cells := 0, slots := 0, locals := 22 } : Room) s m args below meth c H locs 0 0 (MQ below (va_Qi (fun (x : Int32) (_ : Unit) => x = rr) (fun _ t => PA D cy ad 100 21 A M' t) A) args s 0 0 A) (F0 m 51 ls []) := by
  obtain ⟨hx, hb, hml, hown, hts, hr, hlk, hK, hN, hA, hX⟩ := id C
  unfold b_X6_sheet_51 at h
  refine lv_aload_n hx hb dX6_sheet_51 rfl (lv_at hl 0 rfl) ?_
  refine gf_6_19 C hP (iL (by decide)) (by decide) wd_901 dX6_sheet_52 ?_
  refine lv_iload_n hx hb dX6_sheet_55 rfl (lv_at hl 1 rfl) ?_
  refine lv_iload_n hx hb dX6_sheet_56 rfl (lv_at hl 2 rfl) ?_
  refine lv_iconst (v := -1) hx hb dX6_sheet_57 (by decide) ?_
  refine lv_icmp_ne (tgt := 65) hx hb dX6_sheet_58 (by decide) (fun c58 => ?_) (fun c58 => ?_)
  · replace h := it_f c58 h
    refine lv_iload_n hx hb dX6_sheet_65 rfl (lv_at hl 3 rfl) ?_
    exact w_X6_sheet_66 C hP hD hS (lv_sub hl [0, 1] rfl) h
  · replace h := it_t c58 h
    refine lv_iconst (v := 0) hx hb dX6_sheet_61 (by decide) ?_
    refine lv_goto (tgt := 66) hx hb dX6_sheet_62 (by decide) ?_
    exact w_X6_sheet_66 C hP hD hS (lv_sub hl [0, 1] rfl) h
def b_X6_sheet_44 (N : Nat) (x1 : Int32) (x2 : Int32) (x3 : Int32) (M : Mem) : Option (Int32 × Mem) := gd (inb x1 (len 111)) (b_X6_sheet_51 N x1 x2 x3 (sAI M 111 x1.toNatClampNeg x2))
set_option maxHeartbeats 4000000 in
set_option maxRecDepth 100000 in
theorem w_X6_sheet_44 (C : CX p s m args meth c cX6_sheet 5 (some .int) RX6 D cy ad zz 100 21 A) {N : Nat} {M : Mem} {x1 : Int32} {x2 : Int32} {x3 : Int32} {rr : Int32} {M' : Mem} {H : Heap} {locs : List Loc} (hP : va_P D vwCl (pool cy ad 100 21 M) H) (hD : va_D A (pool cy ad 100 21 M)) (hS : va_S A s.heap H locs) {ls : Array Slot} (hl : lv_has ls 5 [(0, .ref (ad 100)), (1, .int x1), (2, .int x2), (3, .int x3)]) (h : b_X6_sheet_44 N x1 x2 x3 M = some (rr, M')) : W p l e ({ frames := 1, cells := 0, slots := 0, locals := 22 } : Room) s m args below meth c H locs 0 0 (MQ below (va_Qi (fun (x : Int32) (_ : Unit) => x = rr) (fun _ t => PA D cy ad 100 21 A M' t) A) args s 0 0 A) (F0 m 44 ls []) := by
  obtain ⟨hx, hb, hml, hown, hts, hr, hlk, hK, hN, hA, hX⟩ := id C
  unfold b_X6_sheet_44 at h
  refine lv_aload_n hx hb dX6_sheet_44 rfl (lv_at hl 0 rfl) ?_
  refine gf_6_18 C hP (iL (by decide)) (by decide) wd_900 dX6_sheet_45 ?_
  refine lv_iload_n hx hb dX6_sheet_48 rfl (lv_at hl 1 rfl) ?_
  refine lv_iload_n hx hb dX6_sheet_49 rfl (lv_at hl 2 rfl) ?_
  obtain ⟨gi1, h⟩ := gd_of h
  refine ia_st C hP hD hS (iL (by decide)) (by decide) gi1 dX6_sheet_50 (fun H locs hP hD hS => ?_)
  exact w_X6_sheet_51 C hP hD hS hl h
def b_X6_sheet_32 (N : Nat) (x1 : Int32) (x2 : Int32) (x3 : Int32) (M : Mem) : Option (Int32 × Mem) := (if x2 = (-1 : Int32) then b_X6_sheet_44 N x1 x2 x3 M else (if 0 ≤ x3 then b_X6_sheet_44 N x1 x2 x3 M else some ((-14 : Int32), M)))
set_option maxHeartbeats 4000000 in
set_option maxRecDepth 100000 in
theorem w_X6_sheet_32 (C : CX p s m args meth c cX6_sheet 5 (some .int) RX6 D cy ad zz 100 21 A) {N : Nat} {M : Mem} {x1 : Int32} {x2 : Int32} {x3 : Int32} {rr : Int32} {M' : Mem} {H : Heap} {locs : List Loc} (hP : va_P D vwCl (pool cy ad 100 21 M) H) (hD : va_D A (pool cy ad 100 21 M)) (hS : va_S A s.heap H locs) {ls : Array Slot} (hl : lv_has ls 5 [(0, .ref (ad 100)), (1, .int x1), (2, .int x2), (3, .int x3)]) (h : b_X6_sheet_32 N x1 x2 x3 M = some (rr, M')) : W p l e ({ frames := 1, cells := 0, slots := 0, locals := 22 } : Room) s m args below meth c H locs 0 0 (MQ below (va_Qi (fun (x : Int32) (_ : Unit) => x = rr) (fun _ t => PA D cy ad 100 21 A M' t) A) args s 0 0 A) (F0 m 32 ls []) := by
  obtain ⟨hx, hb, hml, hown, hts, hr, hlk, hK, hN, hA, hX⟩ := id C
  unfold b_X6_sheet_32 at h
  refine lv_iload_n hx hb dX6_sheet_32 rfl (lv_at hl 2 rfl) ?_
  refine lv_iconst (v := -1) hx hb dX6_sheet_33 (by decide) ?_
  refine lv_icmp_eq (tgt := 44) hx hb dX6_sheet_34 (by decide) (fun c34 => ?_) (fun c34 => ?_)
  · replace h := it_t c34 h
    exact w_X6_sheet_44 C hP hD hS hl h
  · replace h := it_f c34 h
    refine lv_iload_n hx hb dX6_sheet_37 rfl (lv_at hl 3 rfl) ?_
    refine lv_if_ge (tgt := 44) hx hb dX6_sheet_38 (by decide) (fun c38 => ?_) (fun c38 => ?_)
    · replace h := it_t c38 h
      exact w_X6_sheet_44 C hP hD hS hl h
    · replace h := it_f c38 h
      refine lv_bipush (v := -14) hx hb dX6_sheet_41 (by decide) ?_
      exact rt_i (r := (-14 : Int32)) C hP hD hS dX6_sheet_43 (rw_end h)
def b_X6_sheet_0 (N : Nat) (x1 : Int32) (x2 : Int32) (x3 : Int32) (M : Mem) : Option (Int32 × Mem) := (f_X6_in x1 (0 : Int32) (3 : Int32) M).bind fun r3 => (if r3 = true then (f_X6_in x2 (-1 : Int32) (2 : Int32) M).bind fun r12 => (if r12 = true then (if x2 = (-1 : Int32) then b_X6_sheet_32 N x1 x2 x3 M else (if x3 ≤ (40 : Int32) then b_X6_sheet_32 N x1 x2 x3 M else some ((-2 : Int32), M))) else some ((-2 : Int32), M)) else some ((-2 : Int32), M))
set_option maxHeartbeats 4000000 in
set_option maxRecDepth 100000 in
theorem w_X6_sheet_0 (C : CX p s m args meth c cX6_sheet 5 (some .int) RX6 D cy ad zz 100 21 A) {N : Nat} {M : Mem} {x1 : Int32} {x2 : Int32} {x3 : Int32} {rr : Int32} {M' : Mem} {H : Heap} {locs : List Loc} (hP : va_P D vwCl (pool cy ad 100 21 M) H) (hD : va_D A (pool cy ad 100 21 M)) (hS : va_S A s.heap H locs) {ls : Array Slot} (hl : lv_has ls 5 [(0, .ref (ad 100)), (1, .int x1), (2, .int x2), (3, .int x3)]) (h : b_X6_sheet_0 N x1 x2 x3 M = some (rr, M')) : W p l e ({ frames := 1, cells := 0, slots := 0, locals := 22 } : Room) s m args below meth c H locs 0 0 (MQ below (va_Qi (fun (x : Int32) (_ : Unit) => x = rr) (fun _ t => PA D cy ad 100 21 A M' t) A) args s 0 0 A) (F0 m 0 ls []) := by
  obtain ⟨hx, hb, hml, hown, hts, hr, hlk, hK, hN, hA, hX⟩ := id C
  unfold b_X6_sheet_0 at h
  refine lv_iload_n hx hb dX6_sheet_0 rfl (lv_at hl 1 rfl) ?_
  refine lv_iconst (v := 0) hx hb dX6_sheet_1 (by decide) ?_
  refine lv_iconst (v := 3) hx hb dX6_sheet_2 (by decide) ?_
  obtain ⟨r3, g3, h⟩ := bd_of h
  refine call_iS (As := [.int x1, .int (0 : Int32), .int (3 : Int32)]) (rest := []) C hP hD hS (c_X6_in g3) (gS wd_843 wd_844 wd_75 wd_845) es_X6_in ⟨rfl, rfl⟩ ⟨Nat.le_of_ble_eq_true rfl, Nat.le_of_ble_eq_true rfl⟩ hl.1 rfl (Nat.le_of_ble_eq_true rfl) dX6_sheet_3 (fun H locs hP hD hS => ?_)
  refine lv_if_eq (tgt := 29) hx hb dX6_sheet_6 (by decide) (fun c6 => ?_) (fun c6 => ?_)
  · replace h := it_f (b2i_n c6) h
    refine lv_bipush (v := -2) hx hb dX6_sheet_29 (by decide) ?_
    exact rt_i (r := (-2 : Int32)) C hP hD hS dX6_sheet_31 (rw_end h)
  · replace h := it_t (b2i_1 c6) h
    refine lv_iload_n hx hb dX6_sheet_9 rfl (lv_at hl 2 rfl) ?_
    refine lv_iconst (v := -1) hx hb dX6_sheet_10 (by decide) ?_
    refine lv_iconst (v := 2) hx hb dX6_sheet_11 (by decide) ?_
    obtain ⟨r12, g12, h⟩ := bd_of h
    refine call_iS (As := [.int x2, .int (-1 : Int32), .int (2 : Int32)]) (rest := []) C hP hD hS (c_X6_in g12) (gS wd_843 wd_844 wd_75 wd_845) es_X6_in ⟨rfl, rfl⟩ ⟨Nat.le_of_ble_eq_true rfl, Nat.le_of_ble_eq_true rfl⟩ hl.1 rfl (Nat.le_of_ble_eq_true rfl) dX6_sheet_12 (fun H locs hP hD hS => ?_)
    refine lv_if_eq (tgt := 29) hx hb dX6_sheet_15 (by decide) (fun c15 => ?_) (fun c15 => ?_)
    · replace h := it_f (b2i_n c15) h
      refine lv_bipush (v := -2) hx hb dX6_sheet_29 (by decide) ?_
      exact rt_i (r := (-2 : Int32)) C hP hD hS dX6_sheet_31 (rw_end h)
    · replace h := it_t (b2i_1 c15) h
      refine lv_iload_n hx hb dX6_sheet_18 rfl (lv_at hl 2 rfl) ?_
      refine lv_iconst (v := -1) hx hb dX6_sheet_19 (by decide) ?_
      refine lv_icmp_eq (tgt := 32) hx hb dX6_sheet_20 (by decide) (fun c20 => ?_) (fun c20 => ?_)
      · replace h := it_t c20 h
        exact w_X6_sheet_32 C hP hD hS hl h
      · replace h := it_f c20 h
        refine lv_iload_n hx hb dX6_sheet_23 rfl (lv_at hl 3 rfl) ?_
        refine lv_bipush (v := 40) hx hb dX6_sheet_24 (by decide) ?_
        refine lv_icmp_le (tgt := 32) hx hb dX6_sheet_26 (by decide) (fun c26 => ?_) (fun c26 => ?_)
        · replace h := it_t c26 h
          exact w_X6_sheet_32 C hP hD hS hl h
        · replace h := it_f c26 h
          refine lv_bipush (v := -2) hx hb dX6_sheet_29 (by decide) ?_
          exact rt_i (r := (-2 : Int32)) C hP hD hS dX6_sheet_31 (rw_end h)
def f_X6_sheet (N : Nat) (x1 : Int32) (x2 : Int32) (x3 : Int32) (M : Mem) : Option (Int32 × Mem) := b_X6_sheet_0 N x1 x2 x3 M
theorem c_X6_sheet {l : Launch} {D : va_G} {cy : Nat → ClassId} {ad : Nat → Nat} {zz : (Nat → Nat) × (Nat → Nat)} {N : Nat} {x1 : Int32} {x2 : Int32} {x3 : Int32} {M : Mem} {rr : Int32} {M' : Mem} (h : f_X6_sheet N x1 x2 x3 M = some (rr, M')) : CTi l D cy ad zz 100 21 yX6_sheet (.code yX6_sheet cX6_sheet 5 (some .int) :: tb) ({ frames := 1, cells := 0, slots := 0, locals := 22 } : Room) [.ref (ad 100), .int x1, .int x2, .int x3] M rr M' := by
  intro sz
  refine CX.of (by decide +kernel) (fun p e s m args below meth c H ls C hP hD hS hl => ?_) (Nat.le_of_ble_eq_true rfl)
  exact w_X6_sheet_0 C hP hD hS hl h
theorem ev_X6_sheet : yX6_sheet.cls = RX6 ∧ yX6_sheet.cls ≠ "java/lang/invoke/MethodHandle" ∧ yX6_sheet.cls ≠ "java/lang/invoke/VarHandle" ∧ (parseMethodDescriptor yX6_sheet.desc).map (fun d => d.parameters.length) = some 3 := by decide +kernel
def b_X6_cell_84 (x1 : Int32) (x2 : Int32) (x3 : Int32) (t1 : Int32) (t2 : Int32) (M : Mem) : Option (Int32 × Mem) := gd (inb t1 (len 113)) (some ((1 : Int32), (sAI M 113 t1.toNatClampNeg t2)))
set_option maxHeartbeats 4000000 in
set_option maxRecDepth 100000 in
theorem w_X6_cell_84 (C : CX p s m args meth c cX6_cell 4 (some .int) RX6 D cy ad zz 100 21 A) {M : Mem} {x1 : Int32} {x2 : Int32} {x3 : Int32} {rr : Int32} {M' : Mem} {t1 : Int32} {t2 : Int32} {H : Heap} {locs : List Loc} (hP : va_P D vwCl (pool cy ad 100 21 M) H) (hD : va_D A (pool cy ad 100 21 M)) (hS : va_S A s.heap H locs) {ls : Array Slot} (hl : lv_has ls 4 []) (h : b_X6_cell_84 x1 x2 x3 t1 t2 M = some (rr, M')) : W p l e ({ frames := 1, cells := 0, slots := 0, locals := 22 } : Room) s m args below meth c H locs 0 0 (MQ below (va_Qi (fun (x : Int32) (_ : Unit) => x = rr) (fun _ t => PA D cy ad 100 21 A M' t) A) args s 0 0 A) (F0 m 84 ls [.int t2, .int t1, .ref (ad 113)]) := by
  obtain ⟨hx, hb, hml, hown, hts, hr, hlk, hK, hN, hA, hX⟩ := id C
  unfold b_X6_cell_84 at h
  obtain ⟨gi1, h⟩ := gd_of h
  refine ia_st C hP hD hS (iL (by decide)) (by decide) gi1 dX6_cell_84 (fun H locs hP hD hS => ?_)
  refine lv_iconst (v := 1) hx hb dX6_cell_85 (by decide) ?_
  exact rt_i (r := (1 : Int32)) C hP hD hS dX6_cell_86 (rw_end h)
def b_X6_cell_0 (x1 : Int32) (x2 : Int32) (x3 : Int32) (M : Mem) : Option (Int32 × Mem) := (f_X6_in x1 (0 : Int32) (3 : Int32) M).bind fun r3 => (if r3 = true then gd (inb x1 (len 111)) ((if (AI M 111 x1.toNatClampNeg) = (-1 : Int32) then some ((-11 : Int32), M) else gd (inb x1 (len 112)) ((f_X6_in x2 (0 : Int32) ((AI M 112 x1.toNatClampNeg) - (1 : Int32)) M).bind fun r35 => (if r35 = true then gd (inb x1 (len 111)) ((if (AI M 111 x1.toNatClampNeg) = 0 then b_X6_cell_84 x1 x2 x3 (((40 : Int32) * x1) + x2) (x3.toInt8.toInt32) M else gd (inb x1 (len 111)) ((if (AI M 111 x1.toNatClampNeg) = (1 : Int32) then b_X6_cell_84 x1 x2 x3 (((40 : Int32) * x1) + x2) (x3.toInt16.toInt32) M else b_X6_cell_84 x1 x2 x3 (((40 : Int32) * x1) + x2) x3 M)))) else some ((-12 : Int32), M))))) else some ((-2 : Int32), M))
set_option maxHeartbeats 4000000 in
set_option maxRecDepth 100000 in
theorem w_X6_cell_0 (C : CX p s m args meth c cX6_cell 4 (some .int) RX6 D cy ad zz 100 21 A) {M : Mem} {x1 : Int32} {x2 : Int32} {x3 : Int32} {rr : Int32} {M' : Mem} {H : Heap} {locs : List Loc} (hP : va_P D vwCl (pool cy ad 100 21 M) H) (hD : va_D A (pool cy ad 100 21 M)) (hS : va_S A s.heap H locs) {ls : Array Slot} (hl : lv_has ls 4 [(0, .ref (ad 100)), (1, .int x1), (2, .int x2), (3, .int x3)]) (h : b_X6_cell_0 x1 x2 x3 M = some (rr, M')) : W p l e ({ frames := 1, cells := 0, slots := 0, locals := 22 } : Room) s m args below meth c H locs 0 0 (MQ below (va_Qi (fun (x : Int32) (_ : Unit) => x = rr) (fun _ t => PA D cy ad 100 21 A M' t) A) args s 0 0 A) (F0 m 0 ls []) := by
  obtain ⟨hx, hb, hml, hown, hts, hr, hlk, hK, hN, hA, hX⟩ := id C
  unfold b_X6_cell_0 at h
  refine lv_iload_n hx hb dX6_cell_0 rfl (lv_at hl 1 rfl) ?_
  refine lv_iconst (v := 0) hx hb dX6_cell_1 (by decide) ?_
  refine lv_iconst (v := 3) hx hb dX6_cell_2 (by decide) ?_
  obtain ⟨r3, g3, h⟩ := bd_of h
  refine call_iS (As := [.int x1, .int (0 : Int32), .int (3 : Int32)]) (rest := []) C hP hD hS (c_X6_in g3) (gS wd_843 wd_844 wd_75 wd_845) es_X6_in ⟨rfl, rfl⟩ ⟨Nat.le_of_ble_eq_true rfl, Nat.le_of_ble_eq_true rfl⟩ hl.1 rfl (Nat.le_of_ble_eq_true rfl) dX6_cell_3 (fun H locs hP hD hS => ?_)
  refine lv_if_ne (tgt := 12) hx hb dX6_cell_6 (by decide) (fun c6 => ?_) (fun c6 => ?_)
  · replace h := it_t (b2i_1 c6) h
    refine lv_aload_n hx hb dX6_cell_12 rfl (lv_at hl 0 rfl) ?_
    refine gf_6_18 C hP (iL (by decide)) (by decide) wd_900 dX6_cell_13 ?_
    refine lv_iload_n hx hb dX6_cell_16 rfl (lv_at hl 1 rfl) ?_
    obtain ⟨gi1, h⟩ := gd_of h
    refine ia_ld C hP (iL (by decide)) (by decide) gi1 dX6_cell_17 ?_
    refine lv_iconst (v := -1) hx hb dX6_cell_18 (by decide) ?_
    refine lv_icmp_ne (tgt := 25) hx hb dX6_cell_19 (by decide) (fun c19 => ?_) (fun c19 => ?_)
    · replace h := it_f c19 h
      refine lv_iload_n hx hb dX6_cell_25 rfl (lv_at hl 2 rfl) ?_
      refine lv_iconst (v := 0) hx hb dX6_cell_26 (by decide) ?_
      refine lv_aload_n hx hb dX6_cell_27 rfl (lv_at hl 0 rfl) ?_
      refine gf_6_19 C hP (iL (by decide)) (by decide) wd_901 dX6_cell_28 ?_
      refine lv_iload_n hx hb dX6_cell_31 rfl (lv_at hl 1 rfl) ?_
      obtain ⟨gi2, h⟩ := gd_of h
      refine ia_ld C hP (iL (by decide)) (by decide) gi2 dX6_cell_32 ?_
      refine lv_iconst (v := 1) hx hb dX6_cell_33 (by decide) ?_
      refine lv_isub hx hb dX6_cell_34 ?_
      obtain ⟨r35, g35, h⟩ := bd_of h
      refine call_iS (As := [.int x2, .int (0 : Int32), .int ((AI M 112 x1.toNatClampNeg) - (1 : Int32))]) (rest := []) C hP hD hS (c_X6_in g35) (gS wd_843 wd_844 wd_75 wd_845) es_X6_in ⟨rfl, rfl⟩ ⟨Nat.le_of_ble_eq_true rfl, Nat.le_of_ble_eq_true rfl⟩ hl.1 rfl (Nat.le_of_ble_eq_true rfl) dX6_cell_35 (fun H locs hP hD hS => ?_)
      refine lv_if_ne (tgt := 44) hx hb dX6_cell_38 (by decide) (fun c38 => ?_) (fun c38 => ?_)
      · replace h := it_t (b2i_1 c38) h
        refine lv_aload_n hx hb dX6_cell_44 rfl (lv_at hl 0 rfl) ?_
        refine gf_6_20 C hP (iL (by decide)) (by decide) wd_902 dX6_cell_45 ?_
        refine lv_bipush (v := 40) hx hb dX6_cell_48 (by decide) ?_
        refine lv_iload_n hx hb dX6_cell_50 rfl (lv_at hl 1 rfl) ?_
        refine lv_imul hx hb dX6_cell_51 ?_
        refine lv_iload_n hx hb dX6_cell_52 rfl (lv_at hl 2 rfl) ?_
        refine lv_iadd hx hb dX6_cell_53 ?_
        refine lv_aload_n hx hb dX6_cell_54 rfl (lv_at hl 0 rfl) ?_
        refine gf_6_18 C hP (iL (by decide)) (by decide) wd_900 dX6_cell_55 ?_
        refine lv_iload_n hx hb dX6_cell_58 rfl (lv_at hl 1 rfl) ?_
        obtain ⟨gi3, h⟩ := gd_of h
        refine ia_ld C hP (iL (by decide)) (by decide) gi3 dX6_cell_59 ?_
        refine lv_if_ne (tgt := 68) hx hb dX6_cell_60 (by decide) (fun c60 => ?_) (fun c60 => ?_)
        · replace h := it_f c60 h
          refine lv_aload_n hx hb dX6_cell_68 rfl (lv_at hl 0 rfl) ?_
          refine gf_6_18 C hP (iL (by decide)) (by decide) wd_900 dX6_cell_69 ?_
          refine lv_iload_n hx hb dX6_cell_72 rfl (lv_at hl 1 rfl) ?_
          obtain ⟨gi4, h⟩ := gd_of h
          refine ia_ld C hP (iL (by decide)) (by decide) gi4 dX6_cell_73 ?_
          refine lv_iconst (v := 1) hx hb dX6_cell_74 (by decide) ?_
          refine lv_icmp_ne (tgt := 83) hx hb dX6_cell_75 (by decide) (fun c75 => ?_) (fun c75 => ?_)
          · replace h := it_f c75 h
            refine lv_iload_n hx hb dX6_cell_83 rfl (lv_at hl 3 rfl) ?_
            exact w_X6_cell_84 C hP hD hS (lv_sub hl [] rfl) h
          · replace h := it_t c75 h
            refine lv_iload_n hx hb dX6_cell_78 rfl (lv_at hl 3 rfl) ?_
            refine lv_i2s (v := (x3.toInt16.toInt32)) hx hb dX6_cell_79 rfl ?_
            refine lv_goto (tgt := 84) hx hb dX6_cell_80 (by decide) ?_
            exact w_X6_cell_84 C hP hD hS (lv_sub hl [] rfl) h
        · replace h := it_t c60 h
          refine lv_iload_n hx hb dX6_cell_63 rfl (lv_at hl 3 rfl) ?_
          refine lv_i2b (v := (x3.toInt8.toInt32)) hx hb dX6_cell_64 rfl ?_
          refine lv_goto (tgt := 84) hx hb dX6_cell_65 (by decide) ?_
          exact w_X6_cell_84 C hP hD hS (lv_sub hl [] rfl) h
      · replace h := it_f (b2i_n c38) h
        refine lv_bipush (v := -12) hx hb dX6_cell_41 (by decide) ?_
        exact rt_i (r := (-12 : Int32)) C hP hD hS dX6_cell_43 (rw_end h)
    · replace h := it_t c19 h
      refine lv_bipush (v := -11) hx hb dX6_cell_22 (by decide) ?_
      exact rt_i (r := (-11 : Int32)) C hP hD hS dX6_cell_24 (rw_end h)
  · replace h := it_f (b2i_n c6) h
    refine lv_bipush (v := -2) hx hb dX6_cell_9 (by decide) ?_
    exact rt_i (r := (-2 : Int32)) C hP hD hS dX6_cell_11 (rw_end h)
def f_X6_cell (x1 : Int32) (x2 : Int32) (x3 : Int32) (M : Mem) : Option (Int32 × Mem) := b_X6_cell_0 x1 x2 x3 M
theorem c_X6_cell {l : Launch} {D : va_G} {cy : Nat → ClassId} {ad : Nat → Nat} {zz : (Nat → Nat) × (Nat → Nat)} {x1 : Int32} {x2 : Int32} {x3 : Int32} {M : Mem} {rr : Int32} {M' : Mem} (h : f_X6_cell x1 x2 x3 M = some (rr, M')) : CTi l D cy ad zz 100 21 yX6_cell (.code yX6_cell cX6_cell 4 (some .int) :: tb) ({ frames := 1, cells := 0, slots := 0, locals := 22 } : Room) [.ref (ad 100), .int x1, .int x2, .int x3] M rr M' := by
  intro sz
  refine CX.of (by decide +kernel) (fun p e s m args below meth c H ls C hP hD hS hl => ?_) (Nat.le_of_ble_eq_true rfl)
  exact w_X6_cell_0 C hP hD hS hl h
theorem ev_X6_cell : yX6_cell.cls = RX6 ∧ yX6_cell.cls ≠ "java/lang/invoke/MethodHandle" ∧ yX6_cell.cls ≠ "java/lang/invoke/VarHandle" ∧ (parseMethodDescriptor yX6_cell.desc).map (fun d => d.parameters.length) = some 3 := by decide +kernel
def b_X6_copy_195 (N : Nat) (x1 : Int32) (x2 : Int32) (x3 : Int32) (x4 : Int32) (x5 : Int32) (k147 : Int32 → Int32 → Int32 → Mem → Option (Int32 × Mem)) (x6 : Int32) (x7 : Int32) (x8 : Int32) (M : Mem) : Option (Int32 × Mem) := k147 x6 x7 (x8 + (1 : Int32)) M
set_option maxHeartbeats 4000000 in
set_option maxRecDepth 100000 in
theorem w_X6_copy_195 (C : CX p s m args meth c cX6_copy 10 (some .int) RX6 D cy ad zz 100 21 A) {N : Nat} {M : Mem} {x1 : Int32} {x2 : Int32} {x3 : Int32} {x4 : Int32} {x5 : Int32} {k147 : Int32 → Int32 → Int32 → Mem → Option (Int32 × Mem)} {rr : Int32} {M' : Mem} (hk147 : ∀ (x6 : Int32), ∀ (x7 : Int32), ∀ (x8 : Int32), ∀ (M : Mem), ∀ (H : Heap) (locs : List Loc), va_P D vwCl (pool cy ad 100 21 M) H → va_D A (pool cy ad 100 21 M) → va_S A s.heap H locs → ∀ (ls : Array Slot), lv_has ls 10 [(0, .ref (ad 100)), (5, .int x5), (6, .int x6), (7, .int x7), (8, .int x8)] → k147 x6 x7 x8 M = some (rr, M') → W p l e ({ frames := 1, cells := 0, slots := 0, locals := 22 } : Room) s m args below meth c H locs 0 0 (MQ below (va_Qi (fun (x : Int32) (_ : Unit) => x = rr) (fun _ t => PA D cy ad 100 21 A M' t) A) args s 0 0 A) (F0 m 147 ls [])) {x6 : Int32} {x7 : Int32} {x8 : Int32} {H : Heap} {locs : List Loc} (hP : va_P D vwCl (pool cy ad 100 21 M) H) (hD : va_D A (pool cy ad 100 21 M)) (hS : va_S A s.heap H locs) {ls : Array Slot} (hl : lv_has ls 10 [(0, .ref (ad 100)), (5, .int x5), (6, .int x6), (7, .int x7), (8, .int x8)]) (h : b_X6_copy_195 N x1 x2 x3 x4 x5 k147 x6 x7 x8 M = some (rr, M')) : W p l e ({ frames := 1, cells := 0, slots := 0, locals := 22 } : Room) s m args below meth c H locs 0 0 (MQ below (va_Qi (fun (x : Int32) (_ : Unit) => x = rr) (fun _ t => PA D cy ad 100 21 A M' t) A) args s 0 0 A) (F0 m 195 ls []) := by
  obtain ⟨hx, hb, hml, hown, hts, hr, hlk, hK, hN, hA, hX⟩ := id C
  unfold b_X6_copy_195 at h
  refine lv_iinc (v := (x8 + (1 : Int32))) (lv' := [(8, .int (x8 + (1 : Int32))), (0, .ref (ad 100)), (5, .int x5), (6, .int x6), (7, .int x7)]) hx hb dX6_copy_195 hl (k := 4) rfl rfl (by decide) rfl (fun ls hl => ?_)
  refine lv_goto (tgt := 147) hx hb dX6_copy_198 (by decide) ?_
  exact hk147 _ _ _ _ _ _ hP hD hS _ (lv_sub hl [1, 2, 3, 4, 0] rfl) h
def b_X6_copy_173 (N : Nat) (x1 : Int32) (x2 : Int32) (x3 : Int32) (x4 : Int32) (x5 : Int32) (k147 : Int32 → Int32 → Int32 → Mem → Option (Int32 × Mem)) (x6 : Int32) (x7 : Int32) (x8 : Int32) (t0 : Int32) (M : Mem) : Option (Int32 × Mem) := gd (inb (x6 + t0) (len 113)) (gd (inb (x7 + t0) (len 113)) (b_X6_copy_195 N x1 x2 x3 x4 x5 k147 x6 x7 x8 (sAI M 113 (x7 + t0).toNatClampNeg (AI M 113 (x6 + t0).toNatClampNeg))))
set_option maxHeartbeats 4000000 in
set_option maxRecDepth 100000 in
theorem w_X6_copy_173 (C : CX p s m args meth c cX6_copy 10 (some .int) RX6 D cy ad zz 100 21 A) {N : Nat} {M : Mem} {x1 : Int32} {x2 : Int32} {x3 : Int32} {x4 : Int32} {x5 : Int32} {k147 : Int32 → Int32 → Int32 → Mem → Option (Int32 × Mem)} {rr : Int32} {M' : Mem} (hk147 : ∀ (x6 : Int32), ∀ (x7 : Int32), ∀ (x8 : Int32), ∀ (M : Mem), ∀ (H : Heap) (locs : List Loc), va_P D vwCl (pool cy ad 100 21 M) H → va_D A (pool cy ad 100 21 M) → va_S A s.heap H locs → ∀ (ls : Array Slot), lv_has ls 10 [(0, .ref (ad 100)), (5, .int x5), (6, .int x6), (7, .int x7), (8, .int x8)] → k147 x6 x7 x8 M = some (rr, M') → W p l e ({ frames := 1, cells := 0, slots := 0, locals := 22 } : Room) s m args below meth c H locs 0 0 (MQ below (va_Qi (fun (x : Int32) (_ : Unit) => x = rr) (fun _ t => PA D cy ad 100 21 A M' t) A) args s 0 0 A) (F0 m 147 ls [])) {x6 : Int32} {x7 : Int32} {x8 : Int32} {t0 : Int32} {H : Heap} {locs : List Loc} (hP : va_P D vwCl (pool cy ad 100 21 M) H) (hD : va_D A (pool cy ad 100 21 M)) (hS : va_S A s.heap H locs) {ls : Array Slot} (hl : lv_has ls 10 [(0, .ref (ad 100)), (5, .int x5), (6, .int x6), (7, .int x7), (8, .int x8)]) (h : b_X6_copy_173 N x1 x2 x3 x4 x5 k147 x6 x7 x8 t0 M = some (rr, M')) : W p l e ({ frames := 1, cells := 0, slots := 0, locals := 22 } : Room) s m args below meth c H locs 0 0 (MQ below (va_Qi (fun (x : Int32) (_ : Unit) => x = rr) (fun _ t => PA D cy ad 100 21 A M' t) A) args s 0 0 A) (F0 m 173 ls [.int t0]) := by
  obtain ⟨hx, hb, hml, hown, hts, hr, hlk, hK, hN, hA, hX⟩ := id C
  unfold b_X6_copy_173 at h
  refine lv_istore (lv' := [(9, .int t0), (0, .ref (ad 100)), (5, .int x5), (6, .int x6), (7, .int x7), (8, .int x8)]) hx hb dX6_copy_173 hl (by decide) rfl (fun ls hl => ?_)
  refine lv_aload_n hx hb dX6_copy_175 rfl (lv_at hl 1 rfl) ?_
  refine gf_6_20 C hP (iL (by decide)) (by decide) wd_902 dX6_copy_176 ?_
  refine lv_iload hx hb dX6_copy_179 (lv_at hl 4 rfl) ?_
  refine lv_iload hx hb dX6_copy_181 (lv_at hl 0 rfl) ?_
  refine lv_iadd hx hb dX6_copy_183 ?_
  refine lv_aload_n hx hb dX6_copy_184 rfl (lv_at hl 1 rfl) ?_
  refine gf_6_20 C hP (iL (by decide)) (by decide) wd_902 dX6_copy_185 ?_
  refine lv_iload hx hb dX6_copy_188 (lv_at hl 3 rfl) ?_
  refine lv_iload hx hb dX6_copy_190 (lv_at hl 0 rfl) ?_
  refine lv_iadd hx hb dX6_copy_192 ?_
  obtain ⟨gi1, h⟩ := gd_of h
  refine ia_ld C hP (iL (by decide)) (by decide) gi1 dX6_copy_193 ?_
  obtain ⟨gi2, h⟩ := gd_of h
  refine ia_st C hP hD hS (iL (by decide)) (by decide) gi2 dX6_copy_194 (fun H locs hP hD hS => ?_)
  exact w_X6_copy_195 C hk147 hP hD hS (lv_sub hl [1, 2, 3, 4, 5] rfl) h
def b_X6_copy_147 (N : Nat) (x1 : Int32) (x2 : Int32) (x3 : Int32) (x4 : Int32) (x5 : Int32) : Nat → Int32 → Int32 → Int32 → Mem → Option (Int32 × Mem)
  | 0, _, _, _, _ => none
  | fu + 1, x6, x7, x8, M => (if x5 ≤ x8 then some (x5, M) else (if x7 ≤ x6 then b_X6_copy_173 N x1 x2 x3 x4 x5 (b_X6_copy_147 N x1 x2 x3 x4 x5 fu) x6 x7 x8 x8 M else b_X6_copy_173 N x1 x2 x3 x4 x5 (b_X6_copy_147 N x1 x2 x3 x4 x5 fu) x6 x7 x8 ((x5 - (1 : Int32)) - x8) M))
set_option maxHeartbeats 4000000 in
set_option maxRecDepth 100000 in
theorem w_X6_copy_147 (C : CX p s m args meth c cX6_copy 10 (some .int) RX6 D cy ad zz 100 21 A) {N : Nat} {x1 : Int32} {x2 : Int32} {x3 : Int32} {x4 : Int32} {x5 : Int32} {rr : Int32} {M' : Mem}  : ∀ (fu : Nat), ∀ (x6 : Int32), ∀ (x7 : Int32), ∀ (x8 : Int32), ∀ (M : Mem), ∀ (H : Heap) (locs : List Loc), va_P D vwCl (pool cy ad 100 21 M) H → va_D A (pool cy ad 100 21 M) → va_S A s.heap H locs → ∀ (ls : Array Slot), lv_has ls 10 [(0, .ref (ad 100)), (5, .int x5), (6, .int x6), (7, .int x7), (8, .int x8)] → b_X6_copy_147 N x1 x2 x3 x4 x5 fu x6 x7 x8 M = some (rr, M') → W p l e ({ frames := 1, cells := 0, slots := 0, locals := 22 } : Room) s m args below meth c H locs 0 0 (MQ below (va_Qi (fun (x : Int32) (_ : Unit) => x = rr) (fun _ t => PA D cy ad 100 21 A M' t) A) args s 0 0 A) (F0 m 147 ls []) := by
  obtain ⟨hx, hb, hml, hown, hts, hr, hlk, hK, hN, hA, hX⟩ := id C
  intro fu
  induction fu with
  | zero =>
    intro x6 x7 x8 M H locs hP hD hS ls hl h
    exact no_some (show none = some _ from h)
  | succ fu ih =>
    intro x6 x7 x8 M H locs hP hD hS ls hl h
    rw [b_X6_copy_147] at h
    refine lv_iload hx hb dX6_copy_147 (lv_at hl 4 rfl) ?_
    refine lv_iload hx hb dX6_copy_149 (lv_at hl 1 rfl) ?_
    refine lv_icmp_ge (tgt := 201) hx hb dX6_copy_151 (by decide) (fun c151 => ?_) (fun c151 => ?_)
    · replace h := it_t c151 h
      refine lv_iload hx hb dX6_copy_201 (lv_at hl 1 rfl) ?_
      exact rt_i (r := x5) C hP hD hS dX6_copy_203 (rw_end h)
    · replace h := it_f c151 h
      refine lv_iload hx hb dX6_copy_154 (lv_at hl 2 rfl) ?_
      refine lv_iload hx hb dX6_copy_156 (lv_at hl 3 rfl) ?_
      refine lv_icmp_ge (tgt := 171) hx hb dX6_copy_158 (by decide) (fun c158 => ?_) (fun c158 => ?_)
      · replace h := it_t c158 h
        refine lv_iload hx hb dX6_copy_171 (lv_at hl 4 rfl) ?_
        exact w_X6_copy_173 C ih hP hD hS hl h
      · replace h := it_f c158 h
        refine lv_iload hx hb dX6_copy_161 (lv_at hl 1 rfl) ?_
        refine lv_iconst (v := 1) hx hb dX6_copy_163 (by decide) ?_
        refine lv_isub hx hb dX6_copy_164 ?_
        refine lv_iload hx hb dX6_copy_165 (lv_at hl 4 rfl) ?_
        refine lv_isub hx hb dX6_copy_167 ?_
        refine lv_goto (tgt := 173) hx hb dX6_copy_168 (by decide) ?_
        exact w_X6_copy_173 C ih hP hD hS hl h
def b_X6_copy_0 (N : Nat) (x1 : Int32) (x2 : Int32) (x3 : Int32) (x4 : Int32) (x5 : Int32) (M : Mem) : Option (Int32 × Mem) := (f_X6_in x1 (0 : Int32) (3 : Int32) M).bind fun r3 => (if r3 = true then (f_X6_in x3 (0 : Int32) (3 : Int32) M).bind fun r12 => (if r12 = true then gd (inb x1 (len 111)) ((if (AI M 111 x1.toNatClampNeg) = (-1 : Int32) then some ((-11 : Int32), M) else gd (inb x3 (len 111)) ((if (AI M 111 x3.toNatClampNeg) = (-1 : Int32) then some ((-11 : Int32), M) else gd (inb x1 (len 111)) (gd (inb x3 (len 111)) ((if (AI M 111 x1.toNatClampNeg) = (AI M 111 x3.toNatClampNeg) then (if x5 < 0 then some ((-12 : Int32), M) else (if x2 < 0 then some ((-12 : Int32), M) else (if x4 < 0 then some ((-12 : Int32), M) else gd (inb x1 (len 112)) ((if (AI M 112 x1.toNatClampNeg) < x2 then some ((-12 : Int32), M) else gd (inb x3 (len 112)) ((if (AI M 112 x3.toNatClampNeg) < x4 then some ((-12 : Int32), M) else gd (inb x1 (len 112)) ((if ((AI M 112 x1.toNatClampNeg) - x2) < x5 then some ((-12 : Int32), M) else gd (inb x3 (len 112)) ((if x5 ≤ ((AI M 112 x3.toNatClampNeg) - x4) then b_X6_copy_147 N x1 x2 x3 x4 x5 N (((40 : Int32) * x1) + x2) (((40 : Int32) * x3) + x4) (0 : Int32) M else some ((-12 : Int32), M)))))))))))) else some ((-13 : Int32), M)))))))) else some ((-2 : Int32), M)) else some ((-2 : Int32), M))
set_option maxHeartbeats 4000000 in
set_option maxRecDepth 100000 in
theorem w_X6_copy_0 (C : CX p s m args meth c cX6_copy 10 (some .int) RX6 D cy ad zz 100 21 A) {N : Nat} {M : Mem} {x1 : Int32} {x2 : Int32} {x3 : Int32} {x4 : Int32} {x5 : Int32} {rr : Int32} {M' : Mem} {H : Heap} {locs : List Loc} (hP : va_P D vwCl (pool cy ad 100 21 M) H) (hD : va_D A (pool cy ad 100 21 M)) (hS : va_S A s.heap H locs) {ls : Array Slot} (hl : lv_has ls 10 [(0, .ref (ad 100)), (1, .int x1), (2, .int x2), (3, .int x3), (4, .int x4), (5, .int x5)]) (h : b_X6_copy_0 N x1 x2 x3 x4 x5 M = some (rr, M')) : W p l e ({ frames := 1, cells := 0, slots := 0, locals := 22 } : Room) s m args below meth c H locs 0 0 (MQ below (va_Qi (fun (x : Int32) (_ : Unit) => x = rr) (fun _ t => PA D cy ad 100 21 A M' t) A) args s 0 0 A) (F0 m 0 ls []) := by
  obtain ⟨hx, hb, hml, hown, hts, hr, hlk, hK, hN, hA, hX⟩ := id C
  unfold b_X6_copy_0 at h
  refine lv_iload_n hx hb dX6_copy_0 rfl (lv_at hl 1 rfl) ?_
  refine lv_iconst (v := 0) hx hb dX6_copy_1 (by decide) ?_
  refine lv_iconst (v := 3) hx hb dX6_copy_2 (by decide) ?_
  obtain ⟨r3, g3, h⟩ := bd_of h
  refine call_iS (As := [.int x1, .int (0 : Int32), .int (3 : Int32)]) (rest := []) C hP hD hS (c_X6_in g3) (gS wd_843 wd_844 wd_75 wd_845) es_X6_in ⟨rfl, rfl⟩ ⟨Nat.le_of_ble_eq_true rfl, Nat.le_of_ble_eq_true rfl⟩ hl.1 rfl (Nat.le_of_ble_eq_true rfl) dX6_copy_3 (fun H locs hP hD hS => ?_)
  refine lv_if_eq (tgt := 18) hx hb dX6_copy_6 (by decide) (fun c6 => ?_) (fun c6 => ?_)
  · replace h := it_f (b2i_n c6) h
    refine lv_bipush (v := -2) hx hb dX6_copy_18 (by decide) ?_
    exact rt_i (r := (-2 : Int32)) C hP hD hS dX6_copy_20 (rw_end h)
  · replace h := it_t (b2i_1 c6) h
    refine lv_iload_n hx hb dX6_copy_9 rfl (lv_at hl 3 rfl) ?_
    refine lv_iconst (v := 0) hx hb dX6_copy_10 (by decide) ?_
    refine lv_iconst (v := 3) hx hb dX6_copy_11 (by decide) ?_
    obtain ⟨r12, g12, h⟩ := bd_of h
    refine call_iS (As := [.int x3, .int (0 : Int32), .int (3 : Int32)]) (rest := []) C hP hD hS (c_X6_in g12) (gS wd_843 wd_844 wd_75 wd_845) es_X6_in ⟨rfl, rfl⟩ ⟨Nat.le_of_ble_eq_true rfl, Nat.le_of_ble_eq_true rfl⟩ hl.1 rfl (Nat.le_of_ble_eq_true rfl) dX6_copy_12 (fun H locs hP hD hS => ?_)
    refine lv_if_ne (tgt := 21) hx hb dX6_copy_15 (by decide) (fun c15 => ?_) (fun c15 => ?_)
    · replace h := it_t (b2i_1 c15) h
      refine lv_aload_n hx hb dX6_copy_21 rfl (lv_at hl 0 rfl) ?_
      refine gf_6_18 C hP (iL (by decide)) (by decide) wd_900 dX6_copy_22 ?_
      refine lv_iload_n hx hb dX6_copy_25 rfl (lv_at hl 1 rfl) ?_
      obtain ⟨gi1, h⟩ := gd_of h
      refine ia_ld C hP (iL (by decide)) (by decide) gi1 dX6_copy_26 ?_
      refine lv_iconst (v := -1) hx hb dX6_copy_27 (by decide) ?_
      refine lv_icmp_eq (tgt := 41) hx hb dX6_copy_28 (by decide) (fun c28 => ?_) (fun c28 => ?_)
      · replace h := it_t c28 h
        refine lv_bipush (v := -11) hx hb dX6_copy_41 (by decide) ?_
        exact rt_i (r := (-11 : Int32)) C hP hD hS dX6_copy_43 (rw_end h)
      · replace h := it_f c28 h
        refine lv_aload_n hx hb dX6_copy_31 rfl (lv_at hl 0 rfl) ?_
        refine gf_6_18 C hP (iL (by decide)) (by decide) wd_900 dX6_copy_32 ?_
        refine lv_iload_n hx hb dX6_copy_35 rfl (lv_at hl 3 rfl) ?_
        obtain ⟨gi2, h⟩ := gd_of h
        refine ia_ld C hP (iL (by decide)) (by decide) gi2 dX6_copy_36 ?_
        refine lv_iconst (v := -1) hx hb dX6_copy_37 (by decide) ?_
        refine lv_icmp_ne (tgt := 44) hx hb dX6_copy_38 (by decide) (fun c38 => ?_) (fun c38 => ?_)
        · replace h := it_f c38 h
          refine lv_aload_n hx hb dX6_copy_44 rfl (lv_at hl 0 rfl) ?_
          refine gf_6_18 C hP (iL (by decide)) (by decide) wd_900 dX6_copy_45 ?_
          refine lv_iload_n hx hb dX6_copy_48 rfl (lv_at hl 1 rfl) ?_
          obtain ⟨gi3, h⟩ := gd_of h
          refine ia_ld C hP (iL (by decide)) (by decide) gi3 dX6_copy_49 ?_
          refine lv_aload_n hx hb dX6_copy_50 rfl (lv_at hl 0 rfl) ?_
          refine gf_6_18 C hP (iL (by decide)) (by decide) wd_900 dX6_copy_51 ?_
          refine lv_iload_n hx hb dX6_copy_54 rfl (lv_at hl 3 rfl) ?_
          obtain ⟨gi4, h⟩ := gd_of h
          refine ia_ld C hP (iL (by decide)) (by decide) gi4 dX6_copy_55 ?_
          refine lv_icmp_eq (tgt := 62) hx hb dX6_copy_56 (by decide) (fun c56 => ?_) (fun c56 => ?_)
          · replace h := it_t c56 h
            refine lv_iload hx hb dX6_copy_62 (lv_at hl 5 rfl) ?_
            refine lv_if_lt (tgt := 124) hx hb dX6_copy_64 (by decide) (fun c64 => ?_) (fun c64 => ?_)
            · replace h := it_t c64 h
              refine lv_bipush (v := -12) hx hb dX6_copy_124 (by decide) ?_
              exact rt_i (r := (-12 : Int32)) C hP hD hS dX6_copy_126 (rw_end h)
            · replace h := it_f c64 h
              refine lv_iload_n hx hb dX6_copy_67 rfl (lv_at hl 2 rfl) ?_
              refine lv_if_lt (tgt := 124) hx hb dX6_copy_68 (by decide) (fun c68 => ?_) (fun c68 => ?_)
              · replace h := it_t c68 h
                refine lv_bipush (v := -12) hx hb dX6_copy_124 (by decide) ?_
                exact rt_i (r := (-12 : Int32)) C hP hD hS dX6_copy_126 (rw_end h)
              · replace h := it_f c68 h
                refine lv_iload hx hb dX6_copy_71 (lv_at hl 4 rfl) ?_
                refine lv_if_lt (tgt := 124) hx hb dX6_copy_73 (by decide) (fun c73 => ?_) (fun c73 => ?_)
                · replace h := it_t c73 h
                  refine lv_bipush (v := -12) hx hb dX6_copy_124 (by decide) ?_
                  exact rt_i (r := (-12 : Int32)) C hP hD hS dX6_copy_126 (rw_end h)
                · replace h := it_f c73 h
                  refine lv_iload_n hx hb dX6_copy_76 rfl (lv_at hl 2 rfl) ?_
                  refine lv_aload_n hx hb dX6_copy_77 rfl (lv_at hl 0 rfl) ?_
                  refine gf_6_19 C hP (iL (by decide)) (by decide) wd_901 dX6_copy_78 ?_
                  refine lv_iload_n hx hb dX6_copy_81 rfl (lv_at hl 1 rfl) ?_
                  obtain ⟨gi5, h⟩ := gd_of h
                  refine ia_ld C hP (iL (by decide)) (by decide) gi5 dX6_copy_82 ?_
                  refine lv_icmp_gt (tgt := 124) hx hb dX6_copy_83 (by decide) (fun c83 => ?_) (fun c83 => ?_)
                  · replace h := it_t c83 h
                    refine lv_bipush (v := -12) hx hb dX6_copy_124 (by decide) ?_
                    exact rt_i (r := (-12 : Int32)) C hP hD hS dX6_copy_126 (rw_end h)
                  · replace h := it_f c83 h
                    refine lv_iload hx hb dX6_copy_86 (lv_at hl 4 rfl) ?_
                    refine lv_aload_n hx hb dX6_copy_88 rfl (lv_at hl 0 rfl) ?_
                    refine gf_6_19 C hP (iL (by decide)) (by decide) wd_901 dX6_copy_89 ?_
                    refine lv_iload_n hx hb dX6_copy_92 rfl (lv_at hl 3 rfl) ?_
                    obtain ⟨gi6, h⟩ := gd_of h
                    refine ia_ld C hP (iL (by decide)) (by decide) gi6 dX6_copy_93 ?_
                    refine lv_icmp_gt (tgt := 124) hx hb dX6_copy_94 (by decide) (fun c94 => ?_) (fun c94 => ?_)
                    · replace h := it_t c94 h
                      refine lv_bipush (v := -12) hx hb dX6_copy_124 (by decide) ?_
                      exact rt_i (r := (-12 : Int32)) C hP hD hS dX6_copy_126 (rw_end h)
                    · replace h := it_f c94 h
                      refine lv_iload hx hb dX6_copy_97 (lv_at hl 5 rfl) ?_
                      refine lv_aload_n hx hb dX6_copy_99 rfl (lv_at hl 0 rfl) ?_
                      refine gf_6_19 C hP (iL (by decide)) (by decide) wd_901 dX6_copy_100 ?_
                      refine lv_iload_n hx hb dX6_copy_103 rfl (lv_at hl 1 rfl) ?_
                      obtain ⟨gi7, h⟩ := gd_of h
                      refine ia_ld C hP (iL (by decide)) (by decide) gi7 dX6_copy_104 ?_
                      refine lv_iload_n hx hb dX6_copy_105 rfl (lv_at hl 2 rfl) ?_
                      refine lv_isub hx hb dX6_copy_106 ?_
                      refine lv_icmp_gt (tgt := 124) hx hb dX6_copy_107 (by decide) (fun c107 => ?_) (fun c107 => ?_)
                      · replace h := it_t c107 h
                        refine lv_bipush (v := -12) hx hb dX6_copy_124 (by decide) ?_
                        exact rt_i (r := (-12 : Int32)) C hP hD hS dX6_copy_126 (rw_end h)
                      · replace h := it_f c107 h
                        refine lv_iload hx hb dX6_copy_110 (lv_at hl 5 rfl) ?_
                        refine lv_aload_n hx hb dX6_copy_112 rfl (lv_at hl 0 rfl) ?_
                        refine gf_6_19 C hP (iL (by decide)) (by decide) wd_901 dX6_copy_113 ?_
                        refine lv_iload_n hx hb dX6_copy_116 rfl (lv_at hl 3 rfl) ?_
                        obtain ⟨gi8, h⟩ := gd_of h
                        refine ia_ld C hP (iL (by decide)) (by decide) gi8 dX6_copy_117 ?_
                        refine lv_iload hx hb dX6_copy_118 (lv_at hl 4 rfl) ?_
                        refine lv_isub hx hb dX6_copy_120 ?_
                        refine lv_icmp_le (tgt := 127) hx hb dX6_copy_121 (by decide) (fun c121 => ?_) (fun c121 => ?_)
                        · replace h := it_t c121 h
                          refine lv_bipush (v := 40) hx hb dX6_copy_127 (by decide) ?_
                          refine lv_iload_n hx hb dX6_copy_129 rfl (lv_at hl 1 rfl) ?_
                          refine lv_imul hx hb dX6_copy_130 ?_
                          refine lv_iload_n hx hb dX6_copy_131 rfl (lv_at hl 2 rfl) ?_
                          refine lv_iadd hx hb dX6_copy_132 ?_
                          refine lv_istore (lv' := [(6, .int (((40 : Int32) * x1) + x2)), (0, .ref (ad 100)), (1, .int x1), (2, .int x2), (3, .int x3), (4, .int x4), (5, .int x5)]) hx hb dX6_copy_133 hl (by decide) rfl (fun ls hl => ?_)
                          refine lv_bipush (v := 40) hx hb dX6_copy_135 (by decide) ?_
                          refine lv_iload_n hx hb dX6_copy_137 rfl (lv_at hl 4 rfl) ?_
                          refine lv_imul hx hb dX6_copy_138 ?_
                          refine lv_iload hx hb dX6_copy_139 (lv_at hl 5 rfl) ?_
                          refine lv_iadd hx hb dX6_copy_141 ?_
                          refine lv_istore (lv' := [(7, .int (((40 : Int32) * x3) + x4)), (6, .int (((40 : Int32) * x1) + x2)), (0, .ref (ad 100)), (1, .int x1), (2, .int x2), (3, .int x3), (4, .int x4), (5, .int x5)]) hx hb dX6_copy_142 hl (by decide) rfl (fun ls hl => ?_)
                          refine lv_iconst (v := 0) hx hb dX6_copy_144 (by decide) ?_
                          refine lv_istore (lv' := [(8, .int (0 : Int32)), (7, .int (((40 : Int32) * x3) + x4)), (6, .int (((40 : Int32) * x1) + x2)), (0, .ref (ad 100)), (1, .int x1), (2, .int x2), (3, .int x3), (4, .int x4), (5, .int x5)]) hx hb dX6_copy_145 hl (by decide) rfl (fun ls hl => ?_)
                          exact w_X6_copy_147 C N _ _ _ _ _ _ hP hD hS _ (lv_sub hl [3, 8, 2, 1, 0] rfl) h
                        · replace h := it_f c121 h
                          refine lv_bipush (v := -12) hx hb dX6_copy_124 (by decide) ?_
                          exact rt_i (r := (-12 : Int32)) C hP hD hS dX6_copy_126 (rw_end h)
          · replace h := it_f c56 h
            refine lv_bipush (v := -13) hx hb dX6_copy_59 (by decide) ?_
            exact rt_i (r := (-13 : Int32)) C hP hD hS dX6_copy_61 (rw_end h)
        · replace h := it_t c38 h
          refine lv_bipush (v := -11) hx hb dX6_copy_41 (by decide) ?_
          exact rt_i (r := (-11 : Int32)) C hP hD hS dX6_copy_43 (rw_end h)
    · replace h := it_f (b2i_n c15) h
      refine lv_bipush (v := -2) hx hb dX6_copy_18 (by decide) ?_
      exact rt_i (r := (-2 : Int32)) C hP hD hS dX6_copy_20 (rw_end h)
def f_X6_copy (N : Nat) (x1 : Int32) (x2 : Int32) (x3 : Int32) (x4 : Int32) (x5 : Int32) (M : Mem) : Option (Int32 × Mem) := b_X6_copy_0 N x1 x2 x3 x4 x5 M
theorem c_X6_copy {l : Launch} {D : va_G} {cy : Nat → ClassId} {ad : Nat → Nat} {zz : (Nat → Nat) × (Nat → Nat)} {N : Nat} {x1 : Int32} {x2 : Int32} {x3 : Int32} {x4 : Int32} {x5 : Int32} {M : Mem} {rr : Int32} {M' : Mem} (h : f_X6_copy N x1 x2 x3 x4 x5 M = some (rr, M')) : CTi l D cy ad zz 100 21 yX6_copy (.code yX6_copy cX6_copy 10 (some .int) :: tb) ({ frames := 1, cells := 0, slots := 0, locals := 22 } : Room) [.ref (ad 100), .int x1, .int x2, .int x3, .int x4, .int x5] M rr M' := by
  intro sz
  refine CX.of (by decide +kernel) (fun p e s m args below meth c H ls C hP hD hS hl => ?_) (Nat.le_of_ble_eq_true rfl)
  exact w_X6_copy_0 C hP hD hS hl h
theorem ev_X6_copy : yX6_copy.cls = RX6 ∧ yX6_copy.cls ≠ "java/lang/invoke/MethodHandle" ∧ yX6_copy.cls ≠ "java/lang/invoke/VarHandle" ∧ (parseMethodDescriptor yX6_copy.desc).map (fun d => d.parameters.length) = some 5 := by decide +kernel
def b_X6_sleepersBy_144 (N : Nat) (x1 : Int32) (x2 : Int32) (x3 : Int32) (x4 : Int32) (k64 : Int32 → Int32 → Mem → Option (Int32 × Mem)) (x6 : Int32) (t0 : Int32) (t1 : Int32) (M : Mem) : Option (Int32 × Mem) := k64 (t0 + t1) (x6 + (1 : Int32)) M
set_option maxHeartbeats 4000000 in
set_option maxRecDepth 100000 in
theorem w_X6_sleepersBy_144 (C : CX p s m args meth c cX6_sleepersBy 9 (some .int) RX6 D cy ad zz 100 21 A) {N : Nat} {M : Mem} {x1 : Int32} {x2 : Int32} {x3 : Int32} {x4 : Int32} {k64 : Int32 → Int32 → Mem → Option (Int32 × Mem)} {rr : Int32} {M' : Mem} (hk64 : ∀ (x5 : Int32), ∀ (x6 : Int32), ∀ (M : Mem), ∀ (H : Heap) (locs : List Loc), va_P D vwCl (pool cy ad 100 21 M) H → va_D A (pool cy ad 100 21 M) → va_S A s.heap H locs → ∀ (ls : Array Slot), lv_has ls 9 [(0, .ref (ad 100)), (1, .int x1), (3, .int x3), (4, .int x4), (5, .int x5), (6, .int x6)] → k64 x5 x6 M = some (rr, M') → W p l e ({ frames := 2, cells := 0, slots := 0, locals := 44 } : Room) s m args below meth c H locs 0 0 (MQ below (va_Qi (fun (x : Int32) (_ : Unit) => x = rr) (fun _ t => PA D cy ad 100 21 A M' t) A) args s 0 0 A) (F0 m 64 ls [])) {x6 : Int32} {t0 : Int32} {t1 : Int32} {H : Heap} {locs : List Loc} (hP : va_P D vwCl (pool cy ad 100 21 M) H) (hD : va_D A (pool cy ad 100 21 M)) (hS : va_S A s.heap H locs) {ls : Array Slot} (hl : lv_has ls 9 [(0, .ref (ad 100)), (1, .int x1), (3, .int x3), (4, .int x4), (6, .int x6)]) (h : b_X6_sleepersBy_144 N x1 x2 x3 x4 k64 x6 t0 t1 M = some (rr, M')) : W p l e ({ frames := 2, cells := 0, slots := 0, locals := 44 } : Room) s m args below meth c H locs 0 0 (MQ below (va_Qi (fun (x : Int32) (_ : Unit) => x = rr) (fun _ t => PA D cy ad 100 21 A M' t) A) args s 0 0 A) (F0 m 144 ls [.int t1, .int t0]) := by
  obtain ⟨hx, hb, hml, hown, hts, hr, hlk, hK, hN, hA, hX⟩ := id C
  unfold b_X6_sleepersBy_144 at h
  refine lv_iadd hx hb dX6_sleepersBy_144 ?_
  refine lv_istore (lv' := [(5, .int (t0 + t1)), (0, .ref (ad 100)), (1, .int x1), (3, .int x3), (4, .int x4), (6, .int x6)]) hx hb dX6_sleepersBy_145 hl (by decide) rfl (fun ls hl => ?_)
  refine lv_iinc (v := (x6 + (1 : Int32))) (lv' := [(6, .int (x6 + (1 : Int32))), (5, .int (t0 + t1)), (0, .ref (ad 100)), (1, .int x1), (3, .int x3), (4, .int x4)]) hx hb dX6_sleepersBy_147 hl (k := 5) rfl rfl (by decide) rfl (fun ls hl => ?_)
  refine lv_goto (tgt := 64) hx hb dX6_sleepersBy_150 (by decide) ?_
  exact hk64 _ _ _ _ _ hP hD hS _ (lv_sub hl [2, 3, 4, 5, 1, 0] rfl) h
def b_X6_sleepersBy_64 (N : Nat) (x1 : Int32) (x2 : Int32) (x3 : Int32) (x4 : Int32) : Nat → Int32 → Int32 → Mem → Option (Int32 × Mem)
  | 0, _, _, _ => none
  | fu + 1, x5, x6, M => (if x4 ≤ x6 then some (x5, M) else (if x3 < 0 then some ((-12 : Int32), M) else (if (x3 + ((2 : Int32) * x6)) < x3 then some ((-12 : Int32), M) else gd (inb x1 (len 112)) ((if (x3 + ((2 : Int32) * x6)) ≤ ((AI M 112 x1.toNatClampNeg) - (2 : Int32)) then gd (inb (((40 : Int32) * x1) + (x3 + ((2 : Int32) * x6))) (len 113)) (gd (inb ((((40 : Int32) * x1) + (x3 + ((2 : Int32) * x6))) + (1 : Int32)) (len 113)) (bd2 (f_X6_sleeper (AI M 113 (((40 : Int32) * x1) + (x3 + ((2 : Int32) * x6))).toNatClampNeg) (AI M 113 ((((40 : Int32) * x1) + (x3 + ((2 : Int32) * x6))) + (1 : Int32)).toNatClampNeg) M) fun r133 M133 => (if r133 < 0 then b_X6_sleepersBy_144 N x1 x2 x3 x4 (b_X6_sleepersBy_64 N x1 x2 x3 x4 fu) x6 x5 (0 : Int32) M133 else b_X6_sleepersBy_144 N x1 x2 x3 x4 (b_X6_sleepersBy_64 N x1 x2 x3 x4 fu) x6 x5 (1 : Int32) M133))) else some ((-12 : Int32), M))))))
set_option maxHeartbeats 4000000 in
set_option maxRecDepth 100000 in
theorem w_X6_sleepersBy_64 (C : CX p s m args meth c cX6_sleepersBy 9 (some .int) RX6 D cy ad zz 100 21 A) {N : Nat} {x1 : Int32} {x2 : Int32} {x3 : Int32} {x4 : Int32} {rr : Int32} {M' : Mem}  : ∀ (fu : Nat), ∀ (x5 : Int32), ∀ (x6 : Int32), ∀ (M : Mem), ∀ (H : Heap) (locs : List Loc), va_P D vwCl (pool cy ad 100 21 M) H → va_D A (pool cy ad 100 21 M) → va_S A s.heap H locs → ∀ (ls : Array Slot), lv_has ls 9 [(0, .ref (ad 100)), (1, .int x1), (3, .int x3), (4, .int x4), (5, .int x5), (6, .int x6)] → b_X6_sleepersBy_64 N x1 x2 x3 x4 fu x5 x6 M = some (rr, M') → W p l e ({ frames := 2, cells := 0, slots := 0, locals := 44 } : Room) s m args below meth c H locs 0 0 (MQ below (va_Qi (fun (x : Int32) (_ : Unit) => x = rr) (fun _ t => PA D cy ad 100 21 A M' t) A) args s 0 0 A) (F0 m 64 ls []) := by
  obtain ⟨hx, hb, hml, hown, hts, hr, hlk, hK, hN, hA, hX⟩ := id C
  intro fu
  induction fu with
  | zero =>
    intro x5 x6 M H locs hP hD hS ls hl h
    exact no_some (show none = some _ from h)
  | succ fu ih =>
    intro x5 x6 M H locs hP hD hS ls hl h
    rw [b_X6_sleepersBy_64] at h
    refine lv_iload hx hb dX6_sleepersBy_64 (lv_at hl 5 rfl) ?_
    refine lv_iload hx hb dX6_sleepersBy_66 (lv_at hl 3 rfl) ?_
    refine lv_icmp_ge (tgt := 153) hx hb dX6_sleepersBy_68 (by decide) (fun c68 => ?_) (fun c68 => ?_)
    · replace h := it_t c68 h
      refine lv_iload hx hb dX6_sleepersBy_153 (lv_at hl 4 rfl) ?_
      exact rt_i (r := x5) C hP hD hS dX6_sleepersBy_155 (rw_end h)
    · replace h := it_f c68 h
      refine lv_iload_n hx hb dX6_sleepersBy_71 rfl (lv_at hl 2 rfl) ?_
      refine lv_iconst (v := 2) hx hb dX6_sleepersBy_72 (by decide) ?_
      refine lv_iload hx hb dX6_sleepersBy_73 (lv_at hl 5 rfl) ?_
      refine lv_imul hx hb dX6_sleepersBy_75 ?_
      refine lv_iadd hx hb dX6_sleepersBy_76 ?_
      refine lv_istore (lv' := [(7, .int (x3 + ((2 : Int32) * x6))), (0, .ref (ad 100)), (1, .int x1), (3, .int x3), (4, .int x4), (5, .int x5), (6, .int x6)]) hx hb dX6_sleepersBy_77 hl (by decide) rfl (fun ls hl => ?_)
      refine lv_iload_n hx hb dX6_sleepersBy_79 rfl (lv_at hl 3 rfl) ?_
      refine lv_if_lt (tgt := 102) hx hb dX6_sleepersBy_80 (by decide) (fun c80 => ?_) (fun c80 => ?_)
      · replace h := it_t c80 h
        refine lv_bipush (v := -12) hx hb dX6_sleepersBy_102 (by decide) ?_
        exact rt_i (r := (-12 : Int32)) C hP hD hS dX6_sleepersBy_104 (rw_end h)
      · replace h := it_f c80 h
        refine lv_iload hx hb dX6_sleepersBy_83 (lv_at hl 0 rfl) ?_
        refine lv_iload_n hx hb dX6_sleepersBy_85 rfl (lv_at hl 3 rfl) ?_
        refine lv_icmp_lt (tgt := 102) hx hb dX6_sleepersBy_86 (by decide) (fun c86 => ?_) (fun c86 => ?_)
        · replace h := it_t c86 h
          refine lv_bipush (v := -12) hx hb dX6_sleepersBy_102 (by decide) ?_
          exact rt_i (r := (-12 : Int32)) C hP hD hS dX6_sleepersBy_104 (rw_end h)
        · replace h := it_f c86 h
          refine lv_iload hx hb dX6_sleepersBy_89 (lv_at hl 0 rfl) ?_
          refine lv_aload_n hx hb dX6_sleepersBy_91 rfl (lv_at hl 1 rfl) ?_
          refine gf_6_19 C hP (iL (by decide)) (by decide) wd_901 dX6_sleepersBy_92 ?_
          refine lv_iload_n hx hb dX6_sleepersBy_95 rfl (lv_at hl 2 rfl) ?_
          obtain ⟨gi1, h⟩ := gd_of h
          refine ia_ld C hP (iL (by decide)) (by decide) gi1 dX6_sleepersBy_96 ?_
          refine lv_iconst (v := 2) hx hb dX6_sleepersBy_97 (by decide) ?_
          refine lv_isub hx hb dX6_sleepersBy_98 ?_
          refine lv_icmp_le (tgt := 105) hx hb dX6_sleepersBy_99 (by decide) (fun c99 => ?_) (fun c99 => ?_)
          · replace h := it_t c99 h
            refine lv_bipush (v := 40) hx hb dX6_sleepersBy_105 (by decide) ?_
            refine lv_iload_n hx hb dX6_sleepersBy_107 rfl (lv_at hl 2 rfl) ?_
            refine lv_imul hx hb dX6_sleepersBy_108 ?_
            refine lv_iload hx hb dX6_sleepersBy_109 (lv_at hl 0 rfl) ?_
            refine lv_iadd hx hb dX6_sleepersBy_111 ?_
            refine lv_istore (lv' := [(8, .int (((40 : Int32) * x1) + (x3 + ((2 : Int32) * x6)))), (7, .int (x3 + ((2 : Int32) * x6))), (0, .ref (ad 100)), (1, .int x1), (3, .int x3), (4, .int x4), (5, .int x5), (6, .int x6)]) hx hb dX6_sleepersBy_112 hl (by decide) rfl (fun ls hl => ?_)
            refine lv_iload hx hb dX6_sleepersBy_114 (lv_at hl 6 rfl) ?_
            refine lv_aload_n hx hb dX6_sleepersBy_116 rfl (lv_at hl 2 rfl) ?_
            refine lv_aload_n hx hb dX6_sleepersBy_117 rfl (lv_at hl 2 rfl) ?_
            refine gf_6_20 C hP (iL (by decide)) (by decide) wd_902 dX6_sleepersBy_118 ?_
            refine lv_iload hx hb dX6_sleepersBy_121 (lv_at hl 0 rfl) ?_
            obtain ⟨gi2, h⟩ := gd_of h
            refine ia_ld C hP (iL (by decide)) (by decide) gi2 dX6_sleepersBy_123 ?_
            refine lv_aload_n hx hb dX6_sleepersBy_124 rfl (lv_at hl 2 rfl) ?_
            refine gf_6_20 C hP (iL (by decide)) (by decide) wd_902 dX6_sleepersBy_125 ?_
            refine lv_iload hx hb dX6_sleepersBy_128 (lv_at hl 0 rfl) ?_
            refine lv_iconst (v := 1) hx hb dX6_sleepersBy_130 (by decide) ?_
            refine lv_iadd hx hb dX6_sleepersBy_131 ?_
            obtain ⟨gi3, h⟩ := gd_of h
            refine ia_ld C hP (iL (by decide)) (by decide) gi3 dX6_sleepersBy_132 ?_
            obtain ⟨r133, M133, g133, h⟩ := bd2_of h
            refine call_iV (As := [.int (AI M 113 (((40 : Int32) * x1) + (x3 + ((2 : Int32) * x6))).toNatClampNeg), .int (AI M 113 ((((40 : Int32) * x1) + (x3 + ((2 : Int32) * x6))) + (1 : Int32)).toNatClampNeg)]) (rest := [.int x5]) C hP hD hS (c_X6_sleeper g133) (iL (by decide)) ⟨6, _, _, ent_6 (by decide), rfl, rfl⟩ (gV wd_1271 wd_1053 wd_1054 wd_75 wd_1055) ev_X6_sleeper ⟨rfl, rfl⟩ ⟨Nat.le_of_ble_eq_true rfl, Nat.le_of_ble_eq_true rfl⟩ hl.1 rfl (Nat.le_of_ble_eq_true rfl) dX6_sleepersBy_133 (fun H locs hP hD hS => ?_)
            refine lv_if_lt (tgt := 143) hx hb dX6_sleepersBy_136 (by decide) (fun c136 => ?_) (fun c136 => ?_)
            · replace h := it_t c136 h
              refine lv_iconst (v := 0) hx hb dX6_sleepersBy_143 (by decide) ?_
              exact w_X6_sleepersBy_144 C ih hP hD hS (lv_sub hl [2, 3, 4, 5, 7] rfl) h
            · replace h := it_f c136 h
              refine lv_iconst (v := 1) hx hb dX6_sleepersBy_139 (by decide) ?_
              refine lv_goto (tgt := 144) hx hb dX6_sleepersBy_140 (by decide) ?_
              exact w_X6_sleepersBy_144 C ih hP hD hS (lv_sub hl [2, 3, 4, 5, 7] rfl) h
          · replace h := it_f c99 h
            refine lv_bipush (v := -12) hx hb dX6_sleepersBy_102 (by decide) ?_
            exact rt_i (r := (-12 : Int32)) C hP hD hS dX6_sleepersBy_104 (rw_end h)
def b_X6_sleepersBy_0 (N : Nat) (x1 : Int32) (x2 : Int32) (x3 : Int32) (x4 : Int32) (M : Mem) : Option (Int32 × Mem) := (f_X6_in x1 (0 : Int32) (3 : Int32) M).bind fun r3 => (if r3 = true then (f_X6_in x2 (0 : Int32) (2 : Int32) M).bind fun r12 => (if r12 = true then (f_X6_in x4 (0 : Int32) (6 : Int32) M).bind fun r23 => (if r23 = true then gd (inb x1 (len 111)) ((if (AI M 111 x1.toNatClampNeg) = (-1 : Int32) then some ((-11 : Int32), M) else gd (inb x1 (len 111)) ((if (AI M 111 x1.toNatClampNeg) = x2 then b_X6_sleepersBy_64 N x1 x2 x3 x4 N (0 : Int32) (0 : Int32) M else some ((-13 : Int32), M))))) else some ((-2 : Int32), M)) else some ((-2 : Int32), M)) else some ((-2 : Int32), M))
set_option maxHeartbeats 4000000 in
set_option maxRecDepth 100000 in
theorem w_X6_sleepersBy_0 (C : CX p s m args meth c cX6_sleepersBy 9 (some .int) RX6 D cy ad zz 100 21 A) {N : Nat} {M : Mem} {x1 : Int32} {x2 : Int32} {x3 : Int32} {x4 : Int32} {rr : Int32} {M' : Mem} {H : Heap} {locs : List Loc} (hP : va_P D vwCl (pool cy ad 100 21 M) H) (hD : va_D A (pool cy ad 100 21 M)) (hS : va_S A s.heap H locs) {ls : Array Slot} (hl : lv_has ls 9 [(0, .ref (ad 100)), (1, .int x1), (2, .int x2), (3, .int x3), (4, .int x4)]) (h : b_X6_sleepersBy_0 N x1 x2 x3 x4 M = some (rr, M')) : W p l e ({ frames := 2, cells := 0, slots := 0, locals := 44 } : Room) s m args below meth c H locs 0 0 (MQ below (va_Qi (fun (x : Int32) (_ : Unit) => x = rr) (fun _ t => PA D cy ad 100 21 A M' t) A) args s 0 0 A) (F0 m 0 ls []) := by
  obtain ⟨hx, hb, hml, hown, hts, hr, hlk, hK, hN, hA, hX⟩ := id C
  unfold b_X6_sleepersBy_0 at h
  refine lv_iload_n hx hb dX6_sleepersBy_0 rfl (lv_at hl 1 rfl) ?_
  refine lv_iconst (v := 0) hx hb dX6_sleepersBy_1 (by decide) ?_
  refine lv_iconst (v := 3) hx hb dX6_sleepersBy_2 (by decide) ?_
  obtain ⟨r3, g3, h⟩ := bd_of h
  refine call_iS (As := [.int x1, .int (0 : Int32), .int (3 : Int32)]) (rest := []) C hP hD hS (c_X6_in g3) (gS wd_843 wd_844 wd_75 wd_845) es_X6_in ⟨rfl, rfl⟩ ⟨Nat.le_of_ble_eq_true rfl, Nat.le_of_ble_eq_true rfl⟩ hl.1 rfl (Nat.le_of_ble_eq_true rfl) dX6_sleepersBy_3 (fun H locs hP hD hS => ?_)
  refine lv_if_eq (tgt := 29) hx hb dX6_sleepersBy_6 (by decide) (fun c6 => ?_) (fun c6 => ?_)
  · replace h := it_f (b2i_n c6) h
    refine lv_bipush (v := -2) hx hb dX6_sleepersBy_29 (by decide) ?_
    exact rt_i (r := (-2 : Int32)) C hP hD hS dX6_sleepersBy_31 (rw_end h)
  · replace h := it_t (b2i_1 c6) h
    refine lv_iload_n hx hb dX6_sleepersBy_9 rfl (lv_at hl 2 rfl) ?_
    refine lv_iconst (v := 0) hx hb dX6_sleepersBy_10 (by decide) ?_
    refine lv_iconst (v := 2) hx hb dX6_sleepersBy_11 (by decide) ?_
    obtain ⟨r12, g12, h⟩ := bd_of h
    refine call_iS (As := [.int x2, .int (0 : Int32), .int (2 : Int32)]) (rest := []) C hP hD hS (c_X6_in g12) (gS wd_843 wd_844 wd_75 wd_845) es_X6_in ⟨rfl, rfl⟩ ⟨Nat.le_of_ble_eq_true rfl, Nat.le_of_ble_eq_true rfl⟩ hl.1 rfl (Nat.le_of_ble_eq_true rfl) dX6_sleepersBy_12 (fun H locs hP hD hS => ?_)
    refine lv_if_eq (tgt := 29) hx hb dX6_sleepersBy_15 (by decide) (fun c15 => ?_) (fun c15 => ?_)
    · replace h := it_f (b2i_n c15) h
      refine lv_bipush (v := -2) hx hb dX6_sleepersBy_29 (by decide) ?_
      exact rt_i (r := (-2 : Int32)) C hP hD hS dX6_sleepersBy_31 (rw_end h)
    · replace h := it_t (b2i_1 c15) h
      refine lv_iload hx hb dX6_sleepersBy_18 (lv_at hl 4 rfl) ?_
      refine lv_iconst (v := 0) hx hb dX6_sleepersBy_20 (by decide) ?_
      refine lv_bipush (v := 6) hx hb dX6_sleepersBy_21 (by decide) ?_
      obtain ⟨r23, g23, h⟩ := bd_of h
      refine call_iS (As := [.int x4, .int (0 : Int32), .int (6 : Int32)]) (rest := []) C hP hD hS (c_X6_in g23) (gS wd_843 wd_844 wd_75 wd_845) es_X6_in ⟨rfl, rfl⟩ ⟨Nat.le_of_ble_eq_true rfl, Nat.le_of_ble_eq_true rfl⟩ hl.1 rfl (Nat.le_of_ble_eq_true rfl) dX6_sleepersBy_23 (fun H locs hP hD hS => ?_)
      refine lv_if_ne (tgt := 32) hx hb dX6_sleepersBy_26 (by decide) (fun c26 => ?_) (fun c26 => ?_)
      · replace h := it_t (b2i_1 c26) h
        refine lv_aload_n hx hb dX6_sleepersBy_32 rfl (lv_at hl 0 rfl) ?_
        refine gf_6_18 C hP (iL (by decide)) (by decide) wd_900 dX6_sleepersBy_33 ?_
        refine lv_iload_n hx hb dX6_sleepersBy_36 rfl (lv_at hl 1 rfl) ?_
        obtain ⟨gi1, h⟩ := gd_of h
        refine ia_ld C hP (iL (by decide)) (by decide) gi1 dX6_sleepersBy_37 ?_
        refine lv_iconst (v := -1) hx hb dX6_sleepersBy_38 (by decide) ?_
        refine lv_icmp_ne (tgt := 45) hx hb dX6_sleepersBy_39 (by decide) (fun c39 => ?_) (fun c39 => ?_)
        · replace h := it_f c39 h
          refine lv_aload_n hx hb dX6_sleepersBy_45 rfl (lv_at hl 0 rfl) ?_
          refine gf_6_18 C hP (iL (by decide)) (by decide) wd_900 dX6_sleepersBy_46 ?_
          refine lv_iload_n hx hb dX6_sleepersBy_49 rfl (lv_at hl 1 rfl) ?_
          obtain ⟨gi2, h⟩ := gd_of h
          refine ia_ld C hP (iL (by decide)) (by decide) gi2 dX6_sleepersBy_50 ?_
          refine lv_iload_n hx hb dX6_sleepersBy_51 rfl (lv_at hl 2 rfl) ?_
          refine lv_icmp_eq (tgt := 58) hx hb dX6_sleepersBy_52 (by decide) (fun c52 => ?_) (fun c52 => ?_)
          · replace h := it_t c52 h
            refine lv_iconst (v := 0) hx hb dX6_sleepersBy_58 (by decide) ?_
            refine lv_istore (lv' := [(5, .int (0 : Int32)), (0, .ref (ad 100)), (1, .int x1), (2, .int x2), (3, .int x3), (4, .int x4)]) hx hb dX6_sleepersBy_59 hl (by decide) rfl (fun ls hl => ?_)
            refine lv_iconst (v := 0) hx hb dX6_sleepersBy_61 (by decide) ?_
            refine lv_istore (lv' := [(6, .int (0 : Int32)), (5, .int (0 : Int32)), (0, .ref (ad 100)), (1, .int x1), (2, .int x2), (3, .int x3), (4, .int x4)]) hx hb dX6_sleepersBy_62 hl (by decide) rfl (fun ls hl => ?_)
            exact w_X6_sleepersBy_64 C N _ _ _ _ _ hP hD hS _ (lv_sub hl [2, 3, 5, 6, 1, 0] rfl) h
          · replace h := it_f c52 h
            refine lv_bipush (v := -13) hx hb dX6_sleepersBy_55 (by decide) ?_
            exact rt_i (r := (-13 : Int32)) C hP hD hS dX6_sleepersBy_57 (rw_end h)
        · replace h := it_t c39 h
          refine lv_bipush (v := -11) hx hb dX6_sleepersBy_42 (by decide) ?_
          exact rt_i (r := (-11 : Int32)) C hP hD hS dX6_sleepersBy_44 (rw_end h)
      · replace h := it_f (b2i_n c26) h
        refine lv_bipush (v := -2) hx hb dX6_sleepersBy_29 (by decide) ?_
        exact rt_i (r := (-2 : Int32)) C hP hD hS dX6_sleepersBy_31 (rw_end h)
def f_X6_sleepersBy (N : Nat) (x1 : Int32) (x2 : Int32) (x3 : Int32) (x4 : Int32) (M : Mem) : Option (Int32 × Mem) := b_X6_sleepersBy_0 N x1 x2 x3 x4 M
theorem c_X6_sleepersBy {l : Launch} {D : va_G} {cy : Nat → ClassId} {ad : Nat → Nat} {zz : (Nat → Nat) × (Nat → Nat)} {N : Nat} {x1 : Int32} {x2 : Int32} {x3 : Int32} {x4 : Int32} {M : Mem} {rr : Int32} {M' : Mem} (h : f_X6_sleepersBy N x1 x2 x3 x4 M = some (rr, M')) : CTi l D cy ad zz 100 21 yX6_sleepersBy (.code yX6_sleepersBy cX6_sleepersBy 9 (some .int) :: tb) ({ frames := 2, cells := 0, slots := 0, locals := 44 } : Room) [.ref (ad 100), .int x1, .int x2, .int x3, .int x4] M rr M' := by
  intro sz
  refine CX.of (by decide +kernel) (fun p e s m args below meth c H ls C hP hD hS hl => ?_) (Nat.le_of_ble_eq_true rfl)
  exact w_X6_sleepersBy_0 C hP hD hS hl h
theorem ev_X6_sleepersBy : yX6_sleepersBy.cls = RX6 ∧ yX6_sleepersBy.cls ≠ "java/lang/invoke/MethodHandle" ∧ yX6_sleepersBy.cls ≠ "java/lang/invoke/VarHandle" ∧ (parseMethodDescriptor yX6_sleepersBy.desc).map (fun d => d.parameters.length) = some 4 := by decide +kernel
end
