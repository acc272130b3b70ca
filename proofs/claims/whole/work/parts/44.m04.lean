section
variable {p : Program} {l : Launch} {e : Env} {s : State} {m : MethodId} {args : Array Value} {below : List Frame} {meth : Method} {c : Code} {D : va_G} {cy : Nat → ClassId} {ad : Nat → Nat} {zz : (Nat → Nat) × (Nat → Nat)} {A : Nat → Prop}
def b_X6_track_0 (N : Nat) (x1 : Int32) (x2 : Int32) (M : Mem) : Option (Int64 × Mem) := (if x2 = (-2 : Int32) then some ((FJ M 100 6), M) else (f_X6_in x1 (0 : Int32) (40 : Int32) M).bind fun r15 => (if r15 = true then (f_X6_in x2 (-1 : Int32) ((FI M 100 0) - (1 : Int32)) M).bind fun r29 => (if r29 = true then bd2 (f_X6_tracked N x1 x2 M) fun r38 M38 => some (r38, M38) else some ((-4611686018427387904 : Int64), M)) else some ((-4611686018427387904 : Int64), M)))
set_option maxHeartbeats 4000000 in
set_option maxRecDepth 100000 in
theorem w_X6_track_0 (C : CX p s m args meth c cX6_track 3 (some .long) RX6 D cy ad zz 100 21 A) {N : Nat} {M : Mem} {x1 : Int32} {x2 : Int32} {rr : Int64} {M' : Mem} {H : Heap} {locs : List Loc} (hP : va_P D vwCl (pool cy ad 100 21 M) H) (hD : va_D A (pool cy ad 100 21 M)) (hS : va_S A s.heap H locs) {ls : Array Slot} (hl : lv_has ls 3 [(0, .ref (ad 100)), (1, .int x1), (2, .int x2)]) (h : b_X6_track_0 N x1 x2 M = some (rr, M')) : W p l e ({ frames := 7, cells := 0, slots := 0, locals := 165 } : Room) s m args below meth c H locs 0 0 (MQ below (va_Ql (fun (x : Int64) (_ : Unit) => x = rr) (fun _ t => PA D cy ad 100 21 A M' t) A) args s 0 0 A) (F0 m 0 ls []) := by
  obtain ⟨hx, hb, hml, hown, hts, hr, hlk, hK, hN, hA, hX⟩ := id C
  unfold b_X6_track_0 at h
  refine lv_iload_n hx hb dX6_track_0 rfl (lv_at hl 2 rfl) ?_
  refine lv_bipush (v := -2) hx hb dX6_track_1 (by decide) ?_
  refine lv_icmp_ne (tgt := 11) hx hb dX6_track_3 (by decide) (fun c3 => ?_) (fun c3 => ?_)
  · replace h := it_f c3 h
    refine lv_iload_n hx hb dX6_track_11 rfl (lv_at hl 1 rfl) ?_
    refine lv_iconst (v := 0) hx hb dX6_track_12 (by decide) ?_
    refine lv_bipush (v := 40) hx hb dX6_track_13 (by decide) ?_
    obtain ⟨r15, g15, h⟩ := bd_of h
    refine call_iS (As := [.int x1, .int (0 : Int32), .int (40 : Int32)]) (rest := []) C hP hD hS (c_X6_in g15) (gS wd_843 wd_844 wd_75 wd_845) es_X6_in ⟨rfl, rfl⟩ ⟨Nat.le_of_ble_eq_true rfl, Nat.le_of_ble_eq_true rfl⟩ hl.1 rfl (Nat.le_of_ble_eq_true rfl) dX6_track_15 (fun H locs hP hD hS => ?_)
    refine lv_if_eq (tgt := 44) hx hb dX6_track_18 (by decide) (fun c18 => ?_) (fun c18 => ?_)
    · replace h := it_f (b2i_n c18) h
      refine lv_ldc2 hx hb hown (hts _ wd_1136) dX6_track_44 ?_
      exact rt_l (r := (-4611686018427387904 : Int64)) C hP hD hS dX6_track_47 (rw_end h)
    · replace h := it_t (b2i_1 c18) h
      refine lv_iload_n hx hb dX6_track_21 rfl (lv_at hl 2 rfl) ?_
      refine lv_iconst (v := -1) hx hb dX6_track_22 (by decide) ?_
      refine lv_aload_n hx hb dX6_track_23 rfl (lv_at hl 0 rfl) ?_
      refine gf_6_0 C hP (iL (by decide)) (by decide) wd_882 dX6_track_24 ?_
      refine lv_iconst (v := 1) hx hb dX6_track_27 (by decide) ?_
      refine lv_isub hx hb dX6_track_28 ?_
      obtain ⟨r29, g29, h⟩ := bd_of h
      refine call_iS (As := [.int x2, .int (-1 : Int32), .int ((FI M 100 0) - (1 : Int32))]) (rest := []) C hP hD hS (c_X6_in g29) (gS wd_843 wd_844 wd_75 wd_845) es_X6_in ⟨rfl, rfl⟩ ⟨Nat.le_of_ble_eq_true rfl, Nat.le_of_ble_eq_true rfl⟩ hl.1 rfl (Nat.le_of_ble_eq_true rfl) dX6_track_29 (fun H locs hP hD hS => ?_)
      refine lv_if_eq (tgt := 44) hx hb dX6_track_32 (by decide) (fun c32 => ?_) (fun c32 => ?_)
      · replace h := it_f (b2i_n c32) h
        refine lv_ldc2 hx hb hown (hts _ wd_1136) dX6_track_44 ?_
        exact rt_l (r := (-4611686018427387904 : Int64)) C hP hD hS dX6_track_47 (rw_end h)
      · replace h := it_t (b2i_1 c32) h
        refine lv_aload_n hx hb dX6_track_35 rfl (lv_at hl 0 rfl) ?_
        refine lv_iload_n hx hb dX6_track_36 rfl (lv_at hl 1 rfl) ?_
        refine lv_iload_n hx hb dX6_track_37 rfl (lv_at hl 2 rfl) ?_
        obtain ⟨r38, M38, g38, h⟩ := bd2_of h
        refine call_lV (As := [.int x1, .int x2]) (rest := []) C hP hD hS (c_X6_tracked g38) (iL (by decide)) ⟨6, _, _, ent_6 (by decide), rfl, rfl⟩ (gV wd_1132 wd_1134 wd_53 wd_75 wd_1135) ev_X6_tracked ⟨rfl, rfl⟩ ⟨Nat.le_of_ble_eq_true rfl, Nat.le_of_ble_eq_true rfl⟩ hl.1 rfl (Nat.le_of_ble_eq_true rfl) dX6_track_38 (fun H locs hP hD hS => ?_)
        refine lv_goto (tgt := 47) hx hb dX6_track_41 (by decide) ?_
        exact rt_l (r := r38) C hP hD hS dX6_track_47 (rw_end h)
  · replace h := it_t c3 h
    refine lv_aload_n hx hb dX6_track_6 rfl (lv_at hl 0 rfl) ?_
    refine gf_6_6 C hP (iL (by decide)) (by decide) wd_888 dX6_track_7 ?_
    exact rt_l (r := (FJ M 100 6)) C hP hD hS dX6_track_10 (rw_end h)
def f_X6_track (N : Nat) (x1 : Int32) (x2 : Int32) (M : Mem) : Option (Int64 × Mem) := b_X6_track_0 N x1 x2 M
theorem c_X6_track {l : Launch} {D : va_G} {cy : Nat → ClassId} {ad : Nat → Nat} {zz : (Nat → Nat) × (Nat → Nat)} {N : Nat} {x1 : Int32} {x2 : Int32} {M : Mem} {rr : Int64} {M' : Mem} (h : f_X6_track N x1 x2 M = some (rr, M')) : CTl l D cy ad zz 100 21 yX6_track (.code yX6_track cX6_track 3 (some .long) :: tb) ({ frames := 7, cells := 0, slots := 0, locals := 165 } : Room) [.ref (ad 100), .int x1, .int x2] M rr M' := by
  intro sz
  refine CX.of (by decide +kernel) (fun p e s m args below meth c H ls C hP hD hS hl => ?_) (Nat.le_of_ble_eq_true rfl)
  exact w_X6_track_0 C hP hD hS hl h
theorem ev_X6_track : yX6_track.cls = RX6 ∧ yX6_track.cls ≠ "java/lang/invoke/MethodHandle" ∧ yX6_track.cls ≠ "java/lang/invoke/VarHandle" ∧ (parseMethodDescriptor yX6_track.desc).map (fun d => d.parameters.length) = some 2 := by decide +kernel
def b_X6_comes_71 (N : Nat) (x1 : Int32) (x2 : Int32) (x3 : Int32) (M : Mem) : Option (Int32 × Mem) := (f_X6_lays N M).bind fun M72 => some (x3, M72)
set_option maxHeartbeats 4000000 in
set_option maxRecDepth 100000 in
theorem w_X6_comes_71 (C : CX p s m args meth c cX6_comes 5 (some .int) RX6 D cy ad zz 100 21 A) {N : Nat} {M : Mem} {x1 : Int32} {x2 : Int32} {rr : Int32} {M' : Mem} {x3 : Int32} {H : Heap} {locs : List Loc} (hP : va_P D vwCl (pool cy ad 100 21 M) H) (hD : va_D A (pool cy ad 100 21 M)) (hS : va_S A s.heap H locs) {ls : Array Slot} (hl : lv_has ls 5 [(0, .ref (ad 100)), (3, .int x3)]) (h : b_X6_comes_71 N x1 x2 x3 M = some (rr, M')) : W p l e ({ frames := 5, cells := 0, slots := 0, locals := 118 } : Room) s m args below meth c H locs 0 0 (MQ below (va_Qi (fun (x : Int32) (_ : Unit) => x = rr) (fun _ t => PA D cy ad 100 21 A M' t) A) args s 0 0 A) (F0 m 71 ls []) := by
  obtain ⟨hx, hb, hml, hown, hts, hr, hlk, hK, hN, hA, hX⟩ := id C
  unfold b_X6_comes_71 at h
  refine lv_aload_n hx hb dX6_comes_71 rfl (lv_at hl 0 rfl) ?_
  obtain ⟨M72, g72, h⟩ := bd_of h
  refine call_vV (As := []) (rest := []) C hP hD hS (c_X6_lays g72) (iL (by decide)) ⟨6, _, _, ent_6 (by decide), rfl, rfl⟩ (gV wd_1124 wd_1126 wd_52 wd_75 wd_1127) ev_X6_lays ⟨rfl, rfl⟩ ⟨Nat.le_of_ble_eq_true rfl, Nat.le_of_ble_eq_true rfl⟩ hl.1 rfl (Nat.le_of_ble_eq_true rfl) dX6_comes_72 (fun H locs hP hD hS => ?_)
  refine lv_iload_n hx hb dX6_comes_75 rfl (lv_at hl 1 rfl) ?_
  exact rt_i (r := x3) C hP hD hS dX6_comes_76 (rw_end h)
def b_X6_comes_60 (N : Nat) (x1 : Int32) (x2 : Int32) (k30 : Int32 → Int32 → Mem → Option (Int32 × Mem)) (x4 : Int32) (t0 : Int32) (M : Mem) : Option (Int32 × Mem) := (f_X6_nightOf N M).bind fun M62 => k30 t0 (x4 + (1 : Int32)) M62
set_option maxHeartbeats 4000000 in
set_option maxRecDepth 100000 in
theorem w_X6_comes_60 (C : CX p s m args meth c cX6_comes 5 (some .int) RX6 D cy ad zz 100 21 A) {N : Nat} {M : Mem} {x1 : Int32} {x2 : Int32} {k30 : Int32 → Int32 → Mem → Option (Int32 × Mem)} {rr : Int32} {M' : Mem} (hk30 : ∀ (x3 : Int32), ∀ (x4 : Int32), ∀ (M : Mem), ∀ (H : Heap) (locs : List Loc), va_P D vwCl (pool cy ad 100 21 M) H → va_D A (pool cy ad 100 21 M) → va_S A s.heap H locs → ∀ (ls : Array Slot), lv_has ls 5 [(0, .ref (ad 100)), (1, .int x1), (2, .int x2), (3, .int x3), (4, .int x4)] → k30 x3 x4 M = some (rr, M') → W p l e ({ frames := 5, cells := 0, slots := 0, locals := 118 } : Room) s m args below meth c H locs 0 0 (MQ below (va_Qi (fun (x : Int32) (_ : Unit) => x = rr) (fun _ t => PA D cy ad 100 21 A M' t) A) args s 0 0 A) (F0 m 30 ls [])) {x4 : Int32} {t0 : Int32} {H : Heap} {locs : List Loc} (hP : va_P D vwCl (pool cy ad 100 21 M) H) (hD : va_D A (pool cy ad 100 21 M)) (hS : va_S A s.heap H locs) {ls : Array Slot} (hl : lv_has ls 5 [(0, .ref (ad 100)), (1, .int x1), (2, .int x2), (4, .int x4)]) (h : b_X6_comes_60 N x1 x2 k30 x4 t0 M = some (rr, M')) : W p l e ({ frames := 5, cells := 0, slots := 0, locals := 118 } : Room) s m args below meth c H locs 0 0 (MQ below (va_Qi (fun (x : Int32) (_ : Unit) => x = rr) (fun _ t => PA D cy ad 100 21 A M' t) A) args s 0 0 A) (F0 m 60 ls [.int t0]) := by
  obtain ⟨hx, hb, hml, hown, hts, hr, hlk, hK, hN, hA, hX⟩ := id C
  unfold b_X6_comes_60 at h
  refine lv_istore_n (lv' := [(3, .int t0), (0, .ref (ad 100)), (1, .int x1), (2, .int x2), (4, .int x4)]) hx hb dX6_comes_60 rfl hl (by decide) rfl (fun ls hl => ?_)
  refine lv_aload_n hx hb dX6_comes_61 rfl (lv_at hl 1 rfl) ?_
  obtain ⟨M62, g62, h⟩ := bd_of h
  refine call_vV (As := []) (rest := []) C hP hD hS (c_X6_nightOf g62) (iL (by decide)) ⟨6, _, _, ent_6 (by decide), rfl, rfl⟩ (gV wd_1088 wd_1090 wd_45 wd_75 wd_1091) ev_X6_nightOf ⟨rfl, rfl⟩ ⟨Nat.le_of_ble_eq_true rfl, Nat.le_of_ble_eq_true rfl⟩ hl.1 rfl (Nat.le_of_ble_eq_true rfl) dX6_comes_62 (fun H locs hP hD hS => ?_)
  refine lv_iinc (v := (x4 + (1 : Int32))) (lv' := [(4, .int (x4 + (1 : Int32))), (3, .int t0), (0, .ref (ad 100)), (1, .int x1), (2, .int x2)]) hx hb dX6_comes_65 hl (k := 4) rfl rfl (by decide) rfl (fun ls hl => ?_)
  refine lv_goto (tgt := 30) hx hb dX6_comes_68 (by decide) ?_
  exact hk30 _ _ _ _ _ hP hD hS _ (lv_sub hl [2, 3, 4, 1, 0] rfl) h
def b_X6_comes_30 (N : Nat) (x1 : Int32) (x2 : Int32) : Nat → Int32 → Int32 → Mem → Option (Int32 × Mem)
  | 0, _, _, _ => none
  | fu + 1, x3, x4, M => (if (60 : Int32) < x4 then b_X6_comes_71 N x1 x2 x3 M else (if x3 = (-1 : Int32) then gd (inb ((5 : Int32) * x1) (len 103)) ((if (AI M 103 ((5 : Int32) * x1).toNatClampNeg) = x2 then b_X6_comes_60 N x1 x2 (b_X6_comes_30 N x1 x2 fu) x4 x4 M else b_X6_comes_60 N x1 x2 (b_X6_comes_30 N x1 x2 fu) x4 (-1 : Int32) M)) else b_X6_comes_71 N x1 x2 x3 M))
set_option maxHeartbeats 4000000 in
set_option maxRecDepth 100000 in
theorem w_X6_comes_30 (C : CX p s m args meth c cX6_comes 5 (some .int) RX6 D cy ad zz 100 21 A) {N : Nat} {x1 : Int32} {x2 : Int32} {rr : Int32} {M' : Mem}  : ∀ (fu : Nat), ∀ (x3 : Int32), ∀ (x4 : Int32), ∀ (M : Mem), ∀ (H : Heap) (locs : List Loc), va_P D vwCl (pool cy ad 100 21 M) H → va_D A (pool cy ad 100 21 M) → va_S A s.heap H locs → ∀ (ls : Array Slot), lv_has ls 5 [(0, .ref (ad 100)), (1, .int x1), (2, .int x2), (3, .int x3), (4, .int x4)] → b_X6_comes_30 N x1 x2 fu x3 x4 M = some (rr, M') → W p l e ({ frames := 5, cells := 0, slots := 0, locals := 118 } : Room) s m args below meth c H locs 0 0 (MQ below (va_Qi (fun (x : Int32) (_ : Unit) => x = rr) (fun _ t => PA D cy ad 100 21 A M' t) A) args s 0 0 A) (F0 m 30 ls []) := by
  obtain ⟨hx, hb, hml, hown, hts, hr, hlk, hK, hN, hA, hX⟩ := id C
  intro fu
  induction fu with
  | zero =>
    intro x3 x4 M H locs hP hD hS ls hl h
    exact no_some (show none = some _ from h)
  | succ fu ih =>
    intro x3 x4 M H locs hP hD hS ls hl h
    rw [b_X6_comes_30] at h
    refine lv_iload hx hb dX6_comes_30 (lv_at hl 4 rfl) ?_
    refine lv_bipush (v := 60) hx hb dX6_comes_32 (by decide) ?_
    refine lv_icmp_gt (tgt := 71) hx hb dX6_comes_34 (by decide) (fun c34 => ?_) (fun c34 => ?_)
    · replace h := it_t c34 h
      exact w_X6_comes_71 C hP hD hS (lv_sub hl [0, 3] rfl) h
    · replace h := it_f c34 h
      refine lv_iload_n hx hb dX6_comes_37 rfl (lv_at hl 3 rfl) ?_
      refine lv_iconst (v := -1) hx hb dX6_comes_38 (by decide) ?_
      refine lv_icmp_ne (tgt := 71) hx hb dX6_comes_39 (by decide) (fun c39 => ?_) (fun c39 => ?_)
      · replace h := it_f c39 h
        exact w_X6_comes_71 C hP hD hS (lv_sub hl [0, 3] rfl) h
      · replace h := it_t c39 h
        refine lv_aload_n hx hb dX6_comes_42 rfl (lv_at hl 0 rfl) ?_
        refine gf_6_3 C hP (iL (by decide)) (by decide) wd_885 dX6_comes_43 ?_
        refine lv_iconst (v := 5) hx hb dX6_comes_46 (by decide) ?_
        refine lv_iload_n hx hb dX6_comes_47 rfl (lv_at hl 1 rfl) ?_
        refine lv_imul hx hb dX6_comes_48 ?_
        obtain ⟨gi1, h⟩ := gd_of h
        refine ia_ld C hP (iL (by decide)) (by decide) gi1 dX6_comes_49 ?_
        refine lv_iload_n hx hb dX6_comes_50 rfl (lv_at hl 2 rfl) ?_
        refine lv_icmp_ne (tgt := 59) hx hb dX6_comes_51 (by decide) (fun c51 => ?_) (fun c51 => ?_)
        · replace h := it_f c51 h
          refine lv_iconst (v := -1) hx hb dX6_comes_59 (by decide) ?_
          exact w_X6_comes_60 C ih hP hD hS (lv_sub hl [0, 1, 2, 4] rfl) h
        · replace h := it_t c51 h
          refine lv_iload hx hb dX6_comes_54 (lv_at hl 4 rfl) ?_
          refine lv_goto (tgt := 60) hx hb dX6_comes_56 (by decide) ?_
          exact w_X6_comes_60 C ih hP hD hS (lv_sub hl [0, 1, 2, 4] rfl) h
def b_X6_comes_0 (N : Nat) (x1 : Int32) (x2 : Int32) (M : Mem) : Option (Int32 × Mem) := (f_X6_isOne x1 M).bind fun r2 => (if r2 = true then (f_X6_isCell x2 M).bind fun r12 => (if r12 = true then (f_X6_keeps N M).bind fun M24 => b_X6_comes_30 N x1 x2 N (-1 : Int32) (0 : Int32) M24 else some ((-7 : Int32), M)) else some ((-5 : Int32), M))
set_option maxHeartbeats 4000000 in
set_option maxRecDepth 100000 in
theorem w_X6_comes_0 (C : CX p s m args meth c cX6_comes 5 (some .int) RX6 D cy ad zz 100 21 A) {N : Nat} {M : Mem} {x1 : Int32} {x2 : Int32} {rr : Int32} {M' : Mem} {H : Heap} {locs : List Loc} (hP : va_P D vwCl (pool cy ad 100 21 M) H) (hD : va_D A (pool cy ad 100 21 M)) (hS : va_S A s.heap H locs) {ls : Array Slot} (hl : lv_has ls 5 [(0, .ref (ad 100)), (1, .int x1), (2, .int x2)]) (h : b_X6_comes_0 N x1 x2 M = some (rr, M')) : W p l e ({ frames := 5, cells := 0, slots := 0, locals := 118 } : Room) s m args below meth c H locs 0 0 (MQ below (va_Qi (fun (x : Int32) (_ : Unit) => x = rr) (fun _ t => PA D cy ad 100 21 A M' t) A) args s 0 0 A) (F0 m 0 ls []) := by
  obtain ⟨hx, hb, hml, hown, hts, hr, hlk, hK, hN, hA, hX⟩ := id C
  unfold b_X6_comes_0 at h
  refine lv_aload_n hx hb dX6_comes_0 rfl (lv_at hl 0 rfl) ?_
  refine lv_iload_n hx hb dX6_comes_1 rfl (lv_at hl 1 rfl) ?_
  obtain ⟨r2, g2, h⟩ := bd_of h
  refine call_iV (As := [.int x1]) (rest := []) C hP hD hS (c_X6_isOne g2) (iL (by decide)) ⟨6, _, _, ent_6 (by decide), rfl, rfl⟩ (gV wd_1034 wd_1036 wd_39 wd_75 wd_1037) ev_X6_isOne ⟨rfl, rfl⟩ ⟨Nat.le_of_ble_eq_true rfl, Nat.le_of_ble_eq_true rfl⟩ hl.1 rfl (Nat.le_of_ble_eq_true rfl) dX6_comes_2 (fun H locs hP hD hS => ?_)
  refine lv_if_ne (tgt := 11) hx hb dX6_comes_5 (by decide) (fun c5 => ?_) (fun c5 => ?_)
  · replace h := it_t (b2i_1 c5) h
    refine lv_iload_n hx hb dX6_comes_11 rfl (lv_at hl 2 rfl) ?_
    obtain ⟨r12, g12, h⟩ := bd_of h
    refine call_iS (As := [.int x2]) (rest := []) C hP hD hS (c_X6_isCell g12) (gS wd_1010 wd_1011 wd_75 wd_1012) es_X6_isCell ⟨rfl, rfl⟩ ⟨Nat.le_of_ble_eq_true rfl, Nat.le_of_ble_eq_true rfl⟩ hl.1 rfl (Nat.le_of_ble_eq_true rfl) dX6_comes_12 (fun H locs hP hD hS => ?_)
    refine lv_if_ne (tgt := 21) hx hb dX6_comes_15 (by decide) (fun c15 => ?_) (fun c15 => ?_)
    · replace h := it_t (b2i_1 c15) h
      refine lv_iconst (v := -1) hx hb dX6_comes_21 (by decide) ?_
      refine lv_istore_n (lv' := [(3, .int (-1 : Int32)), (0, .ref (ad 100)), (1, .int x1), (2, .int x2)]) hx hb dX6_comes_22 rfl hl (by decide) rfl (fun ls hl => ?_)
      refine lv_aload_n hx hb dX6_comes_23 rfl (lv_at hl 1 rfl) ?_
      obtain ⟨M24, g24, h⟩ := bd_of h
      refine call_vV (As := []) (rest := []) C hP hD hS (c_X6_keeps g24) (iL (by decide)) ⟨6, _, _, ent_6 (by decide), rfl, rfl⟩ (gV wd_1104 wd_1106 wd_47 wd_75 wd_1107) ev_X6_keeps ⟨rfl, rfl⟩ ⟨Nat.le_of_ble_eq_true rfl, Nat.le_of_ble_eq_true rfl⟩ hl.1 rfl (Nat.le_of_ble_eq_true rfl) dX6_comes_24 (fun H locs hP hD hS => ?_)
      refine lv_iconst (v := 0) hx hb dX6_comes_27 (by decide) ?_
      refine lv_istore (lv' := [(4, .int (0 : Int32)), (3, .int (-1 : Int32)), (0, .ref (ad 100)), (1, .int x1), (2, .int x2)]) hx hb dX6_comes_28 hl (by decide) rfl (fun ls hl => ?_)
      exact w_X6_comes_30 C N _ _ _ _ _ hP hD hS _ (lv_sub hl [2, 3, 4, 1, 0] rfl) h
    · replace h := it_f (b2i_n c15) h
      refine lv_bipush (v := -7) hx hb dX6_comes_18 (by decide) ?_
      exact rt_i (r := (-7 : Int32)) C hP hD hS dX6_comes_20 (rw_end h)
  · replace h := it_f (b2i_n c5) h
    refine lv_bipush (v := -5) hx hb dX6_comes_8 (by decide) ?_
    exact rt_i (r := (-5 : Int32)) C hP hD hS dX6_comes_10 (rw_end h)
def f_X6_comes (N : Nat) (x1 : Int32) (x2 : Int32) (M : Mem) : Option (Int32 × Mem) := b_X6_comes_0 N x1 x2 M
theorem c_X6_comes {l : Launch} {D : va_G} {cy : Nat → ClassId} {ad : Nat → Nat} {zz : (Nat → Nat) × (Nat → Nat)} {N : Nat} {x1 : Int32} {x2 : Int32} {M : Mem} {rr : Int32} {M' : Mem} (h : f_X6_comes N x1 x2 M = some (rr, M')) : CTi l D cy ad zz 100 21 yX6_comes (.code yX6_comes cX6_comes 5 (some .int) :: tb) ({ frames := 5, cells := 0, slots := 0, locals := 118 } : Room) [.ref (ad 100), .int x1, .int x2] M rr M' := by
  intro sz
  refine CX.of (by decide +kernel) (fun p e s m args below meth c H ls C hP hD hS hl => ?_) (Nat.le_of_ble_eq_true rfl)
  exact w_X6_comes_0 C hP hD hS hl h
theorem ev_X6_comes : yX6_comes.cls = RX6 ∧ yX6_comes.cls ≠ "java/lang/invoke/MethodHandle" ∧ yX6_comes.cls ≠ "java/lang/invoke/VarHandle" ∧ (parseMethodDescriptor yX6_comes.desc).map (fun d => d.parameters.length) = some 2 := by decide +kernel
def b_X6_meet_81 (N : Nat) (x1 : Int32) (x2 : Int32) (x3 : Int32) (M : Mem) : Option (Int32 × Mem) := (f_X6_lays N M).bind fun M82 => some (x3, M82)
set_option maxHeartbeats 4000000 in
set_option maxRecDepth 100000 in
theorem w_X6_meet_81 (C : CX p s m args meth c cX6_meet 5 (some .int) RX6 D cy ad zz 100 21 A) {N : Nat} {M : Mem} {x1 : Int32} {x2 : Int32} {rr : Int32} {M' : Mem} {x3 : Int32} {H : Heap} {locs : List Loc} (hP : va_P D vwCl (pool cy ad 100 21 M) H) (hD : va_D A (pool cy ad 100 21 M)) (hS : va_S A s.heap H locs) {ls : Array Slot} (hl : lv_has ls 5 [(0, .ref (ad 100)), (3, .int x3)]) (h : b_X6_meet_81 N x1 x2 x3 M = some (rr, M')) : W p l e ({ frames := 5, cells := 0, slots := 0, locals := 118 } : Room) s m args below meth c H locs 0 0 (MQ below (va_Qi (fun (x : Int32) (_ : Unit) => x = rr) (fun _ t => PA D cy ad 100 21 A M' t) A) args s 0 0 A) (F0 m 81 ls []) := by
  obtain ⟨hx, hb, hml, hown, hts, hr, hlk, hK, hN, hA, hX⟩ := id C
  unfold b_X6_meet_81 at h
  refine lv_aload_n hx hb dX6_meet_81 rfl (lv_at hl 0 rfl) ?_
  obtain ⟨M82, g82, h⟩ := bd_of h
  refine call_vV (As := []) (rest := []) C hP hD hS (c_X6_lays g82) (iL (by decide)) ⟨6, _, _, ent_6 (by decide), rfl, rfl⟩ (gV wd_1124 wd_1126 wd_52 wd_75 wd_1127) ev_X6_lays ⟨rfl, rfl⟩ ⟨Nat.le_of_ble_eq_true rfl, Nat.le_of_ble_eq_true rfl⟩ hl.1 rfl (Nat.le_of_ble_eq_true rfl) dX6_meet_82 (fun H locs hP hD hS => ?_)
  refine lv_iload_n hx hb dX6_meet_85 rfl (lv_at hl 1 rfl) ?_
  exact rt_i (r := x3) C hP hD hS dX6_meet_86 (rw_end h)
def b_X6_meet_70 (N : Nat) (x1 : Int32) (x2 : Int32) (k33 : Int32 → Int32 → Mem → Option (Int32 × Mem)) (x4 : Int32) (t0 : Int32) (M : Mem) : Option (Int32 × Mem) := (f_X6_nightOf N M).bind fun M72 => k33 t0 (x4 + (1 : Int32)) M72
set_option maxHeartbeats 4000000 in
set_option maxRecDepth 100000 in
theorem w_X6_meet_70 (C : CX p s m args meth c cX6_meet 5 (some .int) RX6 D cy ad zz 100 21 A) {N : Nat} {M : Mem} {x1 : Int32} {x2 : Int32} {k33 : Int32 → Int32 → Mem → Option (Int32 × Mem)} {rr : Int32} {M' : Mem} (hk33 : ∀ (x3 : Int32), ∀ (x4 : Int32), ∀ (M : Mem), ∀ (H : Heap) (locs : List Loc), va_P D vwCl (pool cy ad 100 21 M) H → va_D A (pool cy ad 100 21 M) → va_S A s.heap H locs → ∀ (ls : Array Slot), lv_has ls 5 [(0, .ref (ad 100)), (1, .int x1), (2, .int x2), (3, .int x3), (4, .int x4)] → k33 x3 x4 M = some (rr, M') → W p l e ({ frames := 5, cells := 0, slots := 0, locals := 118 } : Room) s m args below meth c H locs 0 0 (MQ below (va_Qi (fun (x : Int32) (_ : Unit) => x = rr) (fun _ t => PA D cy ad 100 21 A M' t) A) args s 0 0 A) (F0 m 33 ls [])) {x4 : Int32} {t0 : Int32} {H : Heap} {locs : List Loc} (hP : va_P D vwCl (pool cy ad 100 21 M) H) (hD : va_D A (pool cy ad 100 21 M)) (hS : va_S A s.heap H locs) {ls : Array Slot} (hl : lv_has ls 5 [(0, .ref (ad 100)), (1, .int x1), (2, .int x2), (4, .int x4)]) (h : b_X6_meet_70 N x1 x2 k33 x4 t0 M = some (rr, M')) : W p l e ({ frames := 5, cells := 0, slots := 0, locals := 118 } : Room) s m args below meth c H locs 0 0 (MQ below (va_Qi (fun (x : Int32) (_ : Unit) => x = rr) (fun _ t => PA D cy ad 100 21 A M' t) A) args s 0 0 A) (F0 m 70 ls [.int t0]) := by
  obtain ⟨hx, hb, hml, hown, hts, hr, hlk, hK, hN, hA, hX⟩ := id C
  unfold b_X6_meet_70 at h
  refine lv_istore_n (lv' := [(3, .int t0), (0, .ref (ad 100)), (1, .int x1), (2, .int x2), (4, .int x4)]) hx hb dX6_meet_70 rfl hl (by decide) rfl (fun ls hl => ?_)
  refine lv_aload_n hx hb dX6_meet_71 rfl (lv_at hl 1 rfl) ?_
  obtain ⟨M72, g72, h⟩ := bd_of h
  refine call_vV (As := []) (rest := []) C hP hD hS (c_X6_nightOf g72) (iL (by decide)) ⟨6, _, _, ent_6 (by decide), rfl, rfl⟩ (gV wd_1088 wd_1090 wd_45 wd_75 wd_1091) ev_X6_nightOf ⟨rfl, rfl⟩ ⟨Nat.le_of_ble_eq_true rfl, Nat.le_of_ble_eq_true rfl⟩ hl.1 rfl (Nat.le_of_ble_eq_true rfl) dX6_meet_72 (fun H locs hP hD hS => ?_)
  refine lv_iinc (v := (x4 + (1 : Int32))) (lv' := [(4, .int (x4 + (1 : Int32))), (3, .int t0), (0, .ref (ad 100)), (1, .int x1), (2, .int x2)]) hx hb dX6_meet_75 hl (k := 4) rfl rfl (by decide) rfl (fun ls hl => ?_)
  refine lv_goto (tgt := 33) hx hb dX6_meet_78 (by decide) ?_
  exact hk33 _ _ _ _ _ hP hD hS _ (lv_sub hl [2, 3, 4, 1, 0] rfl) h
def b_X6_meet_33 (N : Nat) (x1 : Int32) (x2 : Int32) : Nat → Int32 → Int32 → Mem → Option (Int32 × Mem)
  | 0, _, _, _ => none
  | fu + 1, x3, x4, M => (if (60 : Int32) < x4 then b_X6_meet_81 N x1 x2 x3 M else (if x3 = (-1 : Int32) then gd (inb ((5 : Int32) * x1) (len 103)) (gd (inb ((5 : Int32) * x2) (len 103)) ((if (AI M 103 ((5 : Int32) * x1).toNatClampNeg) = (AI M 103 ((5 : Int32) * x2).toNatClampNeg) then b_X6_meet_70 N x1 x2 (b_X6_meet_33 N x1 x2 fu) x4 x4 M else b_X6_meet_70 N x1 x2 (b_X6_meet_33 N x1 x2 fu) x4 (-1 : Int32) M))) else b_X6_meet_81 N x1 x2 x3 M))
set_option maxHeartbeats 4000000 in
set_option maxRecDepth 100000 in
theorem w_X6_meet_33 (C : CX p s m args meth c cX6_meet 5 (some .int) RX6 D cy ad zz 100 21 A) {N : Nat} {x1 : Int32} {x2 : Int32} {rr : Int32} {M' : Mem}  : ∀ (fu : Nat), ∀ (x3 : Int32), ∀ (x4 : Int32), ∀ (M : Mem), ∀ (H : Heap) (locs : List Loc), va_P D vwCl (pool cy ad 100 21 M) H → va_D A (pool cy ad 100 21 M) → va_S A s.heap H locs → ∀ (ls : Array Slot), lv_has ls 5 [(0, .ref (ad 100)), (1, .int x1), (2, .int x2), (3, .int x3), (4, .int x4)] → b_X6_meet_33 N x1 x2 fu x3 x4 M = some (rr, M') → W p l e ({ frames := 5, cells := 0, slots := 0, locals := 118 } : Room) s m args below meth c H locs 0 0 (MQ below (va_Qi (fun (x : Int32) (_ : Unit) => x = rr) (fun _ t => PA D cy ad 100 21 A M' t) A) args s 0 0 A) (F0 m 33 ls []) := by
  obtain ⟨hx, hb, hml, hown, hts, hr, hlk, hK, hN, hA, hX⟩ := id C
  intro fu
  induction fu with
  | zero =>
    intro x3 x4 M H locs hP hD hS ls hl h
    exact no_some (show none = some _ from h)
  | succ fu ih =>
    intro x3 x4 M H locs hP hD hS ls hl h
    rw [b_X6_meet_33] at h
    refine lv_iload hx hb dX6_meet_33 (lv_at hl 4 rfl) ?_
    refine lv_bipush (v := 60) hx hb dX6_meet_35 (by decide) ?_
    refine lv_icmp_gt (tgt := 81) hx hb dX6_meet_37 (by decide) (fun c37 => ?_) (fun c37 => ?_)
    · replace h := it_t c37 h
      exact w_X6_meet_81 C hP hD hS (lv_sub hl [0, 3] rfl) h
    · replace h := it_f c37 h
      refine lv_iload_n hx hb dX6_meet_40 rfl (lv_at hl 3 rfl) ?_
      refine lv_iconst (v := -1) hx hb dX6_meet_41 (by decide) ?_
      refine lv_icmp_ne (tgt := 81) hx hb dX6_meet_42 (by decide) (fun c42 => ?_) (fun c42 => ?_)
      · replace h := it_f c42 h
        exact w_X6_meet_81 C hP hD hS (lv_sub hl [0, 3] rfl) h
      · replace h := it_t c42 h
        refine lv_aload_n hx hb dX6_meet_45 rfl (lv_at hl 0 rfl) ?_
        refine gf_6_3 C hP (iL (by decide)) (by decide) wd_885 dX6_meet_46 ?_
        refine lv_iconst (v := 5) hx hb dX6_meet_49 (by decide) ?_
        refine lv_iload_n hx hb dX6_meet_50 rfl (lv_at hl 1 rfl) ?_
        refine lv_imul hx hb dX6_meet_51 ?_
        obtain ⟨gi1, h⟩ := gd_of h
        refine ia_ld C hP (iL (by decide)) (by decide) gi1 dX6_meet_52 ?_
        refine lv_aload_n hx hb dX6_meet_53 rfl (lv_at hl 0 rfl) ?_
        refine gf_6_3 C hP (iL (by decide)) (by decide) wd_885 dX6_meet_54 ?_
        refine lv_iconst (v := 5) hx hb dX6_meet_57 (by decide) ?_
        refine lv_iload_n hx hb dX6_meet_58 rfl (lv_at hl 2 rfl) ?_
        refine lv_imul hx hb dX6_meet_59 ?_
        obtain ⟨gi2, h⟩ := gd_of h
        refine ia_ld C hP (iL (by decide)) (by decide) gi2 dX6_meet_60 ?_
        refine lv_icmp_ne (tgt := 69) hx hb dX6_meet_61 (by decide) (fun c61 => ?_) (fun c61 => ?_)
        · replace h := it_f c61 h
          refine lv_iconst (v := -1) hx hb dX6_meet_69 (by decide) ?_
          exact w_X6_meet_70 C ih hP hD hS (lv_sub hl [0, 1, 2, 4] rfl) h
        · replace h := it_t c61 h
          refine lv_iload hx hb dX6_meet_64 (lv_at hl 4 rfl) ?_
          refine lv_goto (tgt := 70) hx hb dX6_meet_66 (by decide) ?_
          exact w_X6_meet_70 C ih hP hD hS (lv_sub hl [0, 1, 2, 4] rfl) h
def b_X6_meet_0 (N : Nat) (x1 : Int32) (x2 : Int32) (M : Mem) : Option (Int32 × Mem) := (f_X6_isOne x1 M).bind fun r2 => (if r2 = true then (f_X6_isOne x2 M).bind fun r10 => (if r10 = true then (if x1 = x2 then some ((-5 : Int32), M) else (f_X6_keeps N M).bind fun M27 => b_X6_meet_33 N x1 x2 N (-1 : Int32) (0 : Int32) M27) else some ((-5 : Int32), M)) else some ((-5 : Int32), M))
set_option maxHeartbeats 4000000 in
set_option maxRecDepth 100000 in
theorem w_X6_meet_0 (C : CX p s m args meth c cX6_meet 5 (some .int) RX6 D cy ad zz 100 21 A) {N : Nat} {M : Mem} {x1 : Int32} {x2 : Int32} {rr : Int32} {M' : Mem} {H : Heap} {locs : List Loc} (hP : va_P D vwCl (pool cy ad 100 21 M) H) (hD : va_D A (pool cy ad 100 21 M)) (hS : va_S A s.heap H locs) {ls : Array Slot} (hl : lv_has ls 5 [(0, .ref (ad 100)), (1, .int x1), (2, .int x2)]) (h : b_X6_meet_0 N x1 x2 M = some (rr, M')) : W p l e ({ frames := 5, cells := 0, slots := 0, locals := 118 } : Room) s m args below meth c H locs 0 0 (MQ below (va_Qi (fun (x : Int32) (_ : Unit) => x = rr) (fun _ t => PA D cy ad 100 21 A M' t) A) args s 0 0 A) (F0 m 0 ls []) := by
  obtain ⟨hx, hb, hml, hown, hts, hr, hlk, hK, hN, hA, hX⟩ := id C
  unfold b_X6_meet_0 at h
  refine lv_aload_n hx hb dX6_meet_0 rfl (lv_at hl 0 rfl) ?_
  refine lv_iload_n hx hb dX6_meet_1 rfl (lv_at hl 1 rfl) ?_
  obtain ⟨r2, g2, h⟩ := bd_of h
  refine call_iV (As := [.int x1]) (rest := []) C hP hD hS (c_X6_isOne g2) (iL (by decide)) ⟨6, _, _, ent_6 (by decide), rfl, rfl⟩ (gV wd_1034 wd_1036 wd_39 wd_75 wd_1037) ev_X6_isOne ⟨rfl, rfl⟩ ⟨Nat.le_of_ble_eq_true rfl, Nat.le_of_ble_eq_true rfl⟩ hl.1 rfl (Nat.le_of_ble_eq_true rfl) dX6_meet_2 (fun H locs hP hD hS => ?_)
  refine lv_if_eq (tgt := 21) hx hb dX6_meet_5 (by decide) (fun c5 => ?_) (fun c5 => ?_)
  · replace h := it_f (b2i_n c5) h
    refine lv_bipush (v := -5) hx hb dX6_meet_21 (by decide) ?_
    exact rt_i (r := (-5 : Int32)) C hP hD hS dX6_meet_23 (rw_end h)
  · replace h := it_t (b2i_1 c5) h
    refine lv_aload_n hx hb dX6_meet_8 rfl (lv_at hl 0 rfl) ?_
    refine lv_iload_n hx hb dX6_meet_9 rfl (lv_at hl 2 rfl) ?_
    obtain ⟨r10, g10, h⟩ := bd_of h
    refine call_iV (As := [.int x2]) (rest := []) C hP hD hS (c_X6_isOne g10) (iL (by decide)) ⟨6, _, _, ent_6 (by decide), rfl, rfl⟩ (gV wd_1034 wd_1036 wd_39 wd_75 wd_1037) ev_X6_isOne ⟨rfl, rfl⟩ ⟨Nat.le_of_ble_eq_true rfl, Nat.le_of_ble_eq_true rfl⟩ hl.1 rfl (Nat.le_of_ble_eq_true rfl) dX6_meet_10 (fun H locs hP hD hS => ?_)
    refine lv_if_eq (tgt := 21) hx hb dX6_meet_13 (by decide) (fun c13 => ?_) (fun c13 => ?_)
    · replace h := it_f (b2i_n c13) h
      refine lv_bipush (v := -5) hx hb dX6_meet_21 (by decide) ?_
      exact rt_i (r := (-5 : Int32)) C hP hD hS dX6_meet_23 (rw_end h)
    · replace h := it_t (b2i_1 c13) h
      refine lv_iload_n hx hb dX6_meet_16 rfl (lv_at hl 1 rfl) ?_
      refine lv_iload_n hx hb dX6_meet_17 rfl (lv_at hl 2 rfl) ?_
      refine lv_icmp_ne (tgt := 24) hx hb dX6_meet_18 (by decide) (fun c18 => ?_) (fun c18 => ?_)
      · replace h := it_f c18 h
        refine lv_iconst (v := -1) hx hb dX6_meet_24 (by decide) ?_
        refine lv_istore_n (lv' := [(3, .int (-1 : Int32)), (0, .ref (ad 100)), (1, .int x1), (2, .int x2)]) hx hb dX6_meet_25 rfl hl (by decide) rfl (fun ls hl => ?_)
        refine lv_aload_n hx hb dX6_meet_26 rfl (lv_at hl 1 rfl) ?_
        obtain ⟨M27, g27, h⟩ := bd_of h
        refine call_vV (As := []) (rest := []) C hP hD hS (c_X6_keeps g27) (iL (by decide)) ⟨6, _, _, ent_6 (by decide), rfl, rfl⟩ (gV wd_1104 wd_1106 wd_47 wd_75 wd_1107) ev_X6_keeps ⟨rfl, rfl⟩ ⟨Nat.le_of_ble_eq_true rfl, Nat.le_of_ble_eq_true rfl⟩ hl.1 rfl (Nat.le_of_ble_eq_true rfl) dX6_meet_27 (fun H locs hP hD hS => ?_)
        refine lv_iconst (v := 0) hx hb dX6_meet_30 (by decide) ?_
        refine lv_istore (lv' := [(4, .int (0 : Int32)), (3, .int (-1 : Int32)), (0, .ref (ad 100)), (1, .int x1), (2, .int x2)]) hx hb dX6_meet_31 hl (by decide) rfl (fun ls hl => ?_)
        exact w_X6_meet_33 C N _ _ _ _ _ hP hD hS _ (lv_sub hl [2, 3, 4, 1, 0] rfl) h
      · replace h := it_t c18 h
        refine lv_bipush (v := -5) hx hb dX6_meet_21 (by decide) ?_
        exact rt_i (r := (-5 : Int32)) C hP hD hS dX6_meet_23 (rw_end h)
def f_X6_meet (N : Nat) (x1 : Int32) (x2 : Int32) (M : Mem) : Option (Int32 × Mem) := b_X6_meet_0 N x1 x2 M
theorem c_X6_meet {l : Launch} {D : va_G} {cy : Nat → ClassId} {ad : Nat → Nat} {zz : (Nat → Nat) × (Nat → Nat)} {N : Nat} {x1 : Int32} {x2 : Int32} {M : Mem} {rr : Int32} {M' : Mem} (h : f_X6_meet N x1 x2 M = some (rr, M')) : CTi l D cy ad zz 100 21 yX6_meet (.code yX6_meet cX6_meet 5 (some .int) :: tb) ({ frames := 5, cells := 0, slots := 0, locals := 118 } : Room) [.ref (ad 100), .int x1, .int x2] M rr M' := by
  intro sz
  refine CX.of (by decide +kernel) (fun p e s m args below meth c H ls C hP hD hS hl => ?_) (Nat.le_of_ble_eq_true rfl)
  exact w_X6_meet_0 C hP hD hS hl h
theorem ev_X6_meet : yX6_meet.cls = RX6 ∧ yX6_meet.cls ≠ "java/lang/invoke/MethodHandle" ∧ yX6_meet.cls ≠ "java/lang/invoke/VarHandle" ∧ (parseMethodDescriptor yX6_meet.desc).map (fun d => d.parameters.length) = some 2 := by decide +kernel
def b_X6_onEnd_104 (N : Nat) (M : Mem) (x1 : Int32) (x2 : Int32) (k26 : Int32 → Int32 → Int32 → Option (Int32)) (x3 : Int32) (x5 : Int32) (t0 : Int32) : Option (Int32) := k26 x3 t0 x5
set_option maxHeartbeats 4000000 in
set_option maxRecDepth 100000 in
theorem w_X6_onEnd_104 (C : CX p s m args meth c cX6_onEnd 6 (some .int) RX6 D cy ad zz 100 21 A) {N : Nat} {M : Mem} {x1 : Int32} {x2 : Int32} {k26 : Int32 → Int32 → Int32 → Option (Int32)} {rr : Int32} (hk26 : ∀ (x3 : Int32), ∀ (x4 : Int32), ∀ (x5 : Int32), ∀ (H : Heap) (locs : List Loc), va_P D vwCl (pool cy ad 100 21 M) H → va_D A (pool cy ad 100 21 M) → va_S A s.heap H locs → ∀ (ls : Array Slot), lv_has ls 6 [(0, .ref (ad 100)), (1, .int x1), (2, .int x2), (3, .int x3), (4, .int x4), (5, .int x5)] → k26 x3 x4 x5 = some rr → W p l e ({ frames := 0, cells := 0, slots := 0, locals := 0 } : Room) s m args below meth c H locs 0 0 (MQ below (va_Qi (fun (x : Int32) (_ : Unit) => x = rr) (fun _ t => PA D cy ad 100 21 A M t) A) args s 0 0 A) (F0 m 26 ls [])) {x3 : Int32} {x5 : Int32} {t0 : Int32} {H : Heap} {locs : List Loc} (hP : va_P D vwCl (pool cy ad 100 21 M) H) (hD : va_D A (pool cy ad 100 21 M)) (hS : va_S A s.heap H locs) {ls : Array Slot} (hl : lv_has ls 6 [(0, .ref (ad 100)), (1, .int x1), (2, .int x2), (3, .int x3), (5, .int x5)]) (h : b_X6_onEnd_104 N M x1 x2 k26 x3 x5 t0 = some rr) : W p l e ({ frames := 0, cells := 0, slots := 0, locals := 0 } : Room) s m args below meth c H locs 0 0 (MQ below (va_Qi (fun (x : Int32) (_ : Unit) => x = rr) (fun _ t => PA D cy ad 100 21 A M t) A) args s 0 0 A) (F0 m 104 ls [.int t0]) := by
  obtain ⟨hx, hb, hml, hown, hts, hr, hlk, hK, hN, hA, hX⟩ := id C
  unfold b_X6_onEnd_104 at h
  refine lv_istore (lv' := [(4, .int t0), (0, .ref (ad 100)), (1, .int x1), (2, .int x2), (3, .int x3), (5, .int x5)]) hx hb dX6_onEnd_104 hl (by decide) rfl (fun ls hl => ?_)
  refine lv_goto (tgt := 26) hx hb dX6_onEnd_106 (by decide) ?_
  exact hk26 _ _ _ _ _ hP hD hS _ (lv_sub hl [1, 2, 3, 4, 0, 5] rfl) h
def b_X6_onEnd_82 (N : Nat) (M : Mem) (x1 : Int32) (x2 : Int32) (k26 : Int32 → Int32 → Int32 → Option (Int32)) (x4 : Int32) (x5 : Int32) (t0 : Int32) : Option (Int32) := gd (inb x2 (len 105)) ((if (x4 + (1 : Int32)) = (AI M 105 x2.toNatClampNeg) then b_X6_onEnd_104 N M x1 x2 k26 t0 x5 (0 : Int32) else b_X6_onEnd_104 N M x1 x2 k26 t0 x5 (x4 + (1 : Int32))))
set_option maxHeartbeats 4000000 in
set_option maxRecDepth 100000 in
theorem w_X6_onEnd_82 (C : CX p s m args meth c cX6_onEnd 6 (some .int) RX6 D cy ad zz 100 21 A) {N : Nat} {M : Mem} {x1 : Int32} {x2 : Int32} {k26 : Int32 → Int32 → Int32 → Option (Int32)} {rr : Int32} (hk26 : ∀ (x3 : Int32), ∀ (x4 : Int32), ∀ (x5 : Int32), ∀ (H : Heap) (locs : List Loc), va_P D vwCl (pool cy ad 100 21 M) H → va_D A (pool cy ad 100 21 M) → va_S A s.heap H locs → ∀ (ls : Array Slot), lv_has ls 6 [(0, .ref (ad 100)), (1, .int x1), (2, .int x2), (3, .int x3), (4, .int x4), (5, .int x5)] → k26 x3 x4 x5 = some rr → W p l e ({ frames := 0, cells := 0, slots := 0, locals := 0 } : Room) s m args below meth c H locs 0 0 (MQ below (va_Qi (fun (x : Int32) (_ : Unit) => x = rr) (fun _ t => PA D cy ad 100 21 A M t) A) args s 0 0 A) (F0 m 26 ls [])) {x4 : Int32} {x5 : Int32} {t0 : Int32} {H : Heap} {locs : List Loc} (hP : va_P D vwCl (pool cy ad 100 21 M) H) (hD : va_D A (pool cy ad 100 21 M)) (hS : va_S A s.heap H locs) {ls : Array Slot} (hl : lv_has ls 6 [(0, .ref (ad 100)), (1, .int x1), (2, .int x2), (4, .int x4), (5, .int x5)]) (h : b_X6_onEnd_82 N M x1 x2 k26 x4 x5 t0 = some rr) : W p l e ({ frames := 0, cells := 0, slots := 0, locals := 0 } : Room) s m args below meth c H locs 0 0 (MQ below (va_Qi (fun (x : Int32) (_ : Unit) => x = rr) (fun _ t => PA D cy ad 100 21 A M t) A) args s 0 0 A) (F0 m 82 ls [.int t0]) := by
  obtain ⟨hx, hb, hml, hown, hts, hr, hlk, hK, hN, hA, hX⟩ := id C
  unfold b_X6_onEnd_82 at h
  refine lv_istore_n (lv' := [(3, .int t0), (0, .ref (ad 100)), (1, .int x1), (2, .int x2), (4, .int x4), (5, .int x5)]) hx hb dX6_onEnd_82 rfl hl (by decide) rfl (fun ls hl => ?_)
  refine lv_iload hx hb dX6_onEnd_83 (lv_at hl 4 rfl) ?_
  refine lv_iconst (v := 1) hx hb dX6_onEnd_85 (by decide) ?_
  refine lv_iadd hx hb dX6_onEnd_86 ?_
  refine lv_aload_n hx hb dX6_onEnd_87 rfl (lv_at hl 1 rfl) ?_
  refine gf_6_5 C hP (iL (by decide)) (by decide) wd_887 dX6_onEnd_88 ?_
  refine lv_iload_n hx hb dX6_onEnd_91 rfl (lv_at hl 3 rfl) ?_
  obtain ⟨gi1, h⟩ := gd_of h
  refine ia_ld C hP (iL (by decide)) (by decide) gi1 dX6_onEnd_92 ?_
  refine lv_icmp_ne (tgt := 100) hx hb dX6_onEnd_93 (by decide) (fun c93 => ?_) (fun c93 => ?_)
  · replace h := it_f c93 h
    refine lv_iload hx hb dX6_onEnd_100 (lv_at hl 4 rfl) ?_
    refine lv_iconst (v := 1) hx hb dX6_onEnd_102 (by decide) ?_
    refine lv_iadd hx hb dX6_onEnd_103 ?_
    exact w_X6_onEnd_104 C hk26 hP hD hS (lv_sub hl [1, 2, 3, 0, 5] rfl) h
  · replace h := it_t c93 h
    refine lv_iconst (v := 0) hx hb dX6_onEnd_96 (by decide) ?_
    refine lv_goto (tgt := 104) hx hb dX6_onEnd_97 (by decide) ?_
    exact w_X6_onEnd_104 C hk26 hP hD hS (lv_sub hl [1, 2, 3, 0, 5] rfl) h
def b_X6_onEnd_26 (N : Nat) (M : Mem) (x1 : Int32) (x2 : Int32) : Nat → Int32 → Int32 → Int32 → Option (Int32)
  | 0, _, _, _ => none
  | fu + 1, x3, x4, x5 => (if (240 : Int32) ≤ x5 then some x5 else gd (inb (((16 : Int32) * x1) + x3) (len 104)) (gd (inb (((16 : Int32) * x2) + x4) (len 104)) ((if (AI M 104 (((16 : Int32) * x1) + x3).toNatClampNeg) = (AI M 104 (((16 : Int32) * x2) + x4).toNatClampNeg) then gd (inb x1 (len 105)) ((if (x3 + (1 : Int32)) = (AI M 105 x1.toNatClampNeg) then b_X6_onEnd_82 N M x1 x2 (b_X6_onEnd_26 N M x1 x2 fu) x4 (x5 + (1 : Int32)) (0 : Int32) else b_X6_onEnd_82 N M x1 x2 (b_X6_onEnd_26 N M x1 x2 fu) x4 (x5 + (1 : Int32)) (x3 + (1 : Int32)))) else some x5))))
set_option maxHeartbeats 4000000 in
set_option maxRecDepth 100000 in
theorem w_X6_onEnd_26 (C : CX p s m args meth c cX6_onEnd 6 (some .int) RX6 D cy ad zz 100 21 A) {N : Nat} {M : Mem} {x1 : Int32} {x2 : Int32} {rr : Int32}  : ∀ (fu : Nat), ∀ (x3 : Int32), ∀ (x4 : Int32), ∀ (x5 : Int32), ∀ (H : Heap) (locs : List Loc), va_P D vwCl (pool cy ad 100 21 M) H → va_D A (pool cy ad 100 21 M) → va_S A s.heap H locs → ∀ (ls : Array Slot), lv_has ls 6 [(0, .ref (ad 100)), (1, .int x1), (2, .int x2), (3, .int x3), (4, .int x4), (5, .int x5)] → b_X6_onEnd_26 N M x1 x2 fu x3 x4 x5 = some rr → W p l e ({ frames := 0, cells := 0, slots := 0, locals := 0 } : Room) s m args below meth c H locs 0 0 (MQ below (va_Qi (fun (x : Int32) (_ : Unit) => x = rr) (fun _ t => PA D cy ad 100 21 A M t) A) args s 0 0 A) (F0 m 26 ls []) := by
  obtain ⟨hx, hb, hml, hown, hts, hr, hlk, hK, hN, hA, hX⟩ := id C
  intro fu
  induction fu with
  | zero =>
    intro x3 x4 x5 H locs hP hD hS ls hl h
    exact no_some (show none = some _ from h)
  | succ fu ih =>
    intro x3 x4 x5 H locs hP hD hS ls hl h
    rw [b_X6_onEnd_26] at h
    refine lv_iload hx hb dX6_onEnd_26 (lv_at hl 5 rfl) ?_
    refine lv_sipush (v := 240) hx hb dX6_onEnd_28 (by decide) ?_
    refine lv_icmp_ge (tgt := 109) hx hb dX6_onEnd_31 (by decide) (fun c31 => ?_) (fun c31 => ?_)
    · replace h := it_t c31 h
      refine lv_iload hx hb dX6_onEnd_109 (lv_at hl 5 rfl) ?_
      exact rt_i (r := x5) C hP hD hS dX6_onEnd_111 ⟨Option.some.inj h, rfl⟩
    · replace h := it_f c31 h
      refine lv_aload_n hx hb dX6_onEnd_34 rfl (lv_at hl 0 rfl) ?_
      refine gf_6_4 C hP (iL (by decide)) (by decide) wd_886 dX6_onEnd_35 ?_
      refine lv_bipush (v := 16) hx hb dX6_onEnd_38 (by decide) ?_
      refine lv_iload_n hx hb dX6_onEnd_40 rfl (lv_at hl 1 rfl) ?_
      refine lv_imul hx hb dX6_onEnd_41 ?_
      refine lv_iload_n hx hb dX6_onEnd_42 rfl (lv_at hl 3 rfl) ?_
      refine lv_iadd hx hb dX6_onEnd_43 ?_
      obtain ⟨gi1, h⟩ := gd_of h
      refine ia_ld C hP (iL (by decide)) (by decide) gi1 dX6_onEnd_44 ?_
      refine lv_aload_n hx hb dX6_onEnd_45 rfl (lv_at hl 0 rfl) ?_
      refine gf_6_4 C hP (iL (by decide)) (by decide) wd_886 dX6_onEnd_46 ?_
      refine lv_bipush (v := 16) hx hb dX6_onEnd_49 (by decide) ?_
      refine lv_iload_n hx hb dX6_onEnd_51 rfl (lv_at hl 2 rfl) ?_
      refine lv_imul hx hb dX6_onEnd_52 ?_
      refine lv_iload hx hb dX6_onEnd_53 (lv_at hl 4 rfl) ?_
      refine lv_iadd hx hb dX6_onEnd_55 ?_
      obtain ⟨gi2, h⟩ := gd_of h
      refine ia_ld C hP (iL (by decide)) (by decide) gi2 dX6_onEnd_56 ?_
      refine lv_icmp_ne (tgt := 109) hx hb dX6_onEnd_57 (by decide) (fun c57 => ?_) (fun c57 => ?_)
      · replace h := it_f c57 h
        refine lv_iload hx hb dX6_onEnd_109 (lv_at hl 5 rfl) ?_
        exact rt_i (r := x5) C hP hD hS dX6_onEnd_111 ⟨Option.some.inj h, rfl⟩
      · replace h := it_t c57 h
        refine lv_iinc (v := (x5 + (1 : Int32))) (lv' := [(5, .int (x5 + (1 : Int32))), (0, .ref (ad 100)), (1, .int x1), (2, .int x2), (3, .int x3), (4, .int x4)]) hx hb dX6_onEnd_60 hl (k := 5) rfl rfl (by decide) rfl (fun ls hl => ?_)
        refine lv_iload_n hx hb dX6_onEnd_63 rfl (lv_at hl 4 rfl) ?_
        refine lv_iconst (v := 1) hx hb dX6_onEnd_64 (by decide) ?_
        refine lv_iadd hx hb dX6_onEnd_65 ?_
        refine lv_aload_n hx hb dX6_onEnd_66 rfl (lv_at hl 1 rfl) ?_
        refine gf_6_5 C hP (iL (by decide)) (by decide) wd_887 dX6_onEnd_67 ?_
        refine lv_iload_n hx hb dX6_onEnd_70 rfl (lv_at hl 2 rfl) ?_
        obtain ⟨gi3, h⟩ := gd_of h
        refine ia_ld C hP (iL (by decide)) (by decide) gi3 dX6_onEnd_71 ?_
        refine lv_icmp_ne (tgt := 79) hx hb dX6_onEnd_72 (by decide) (fun c72 => ?_) (fun c72 => ?_)
        · replace h := it_f c72 h
          refine lv_iload_n hx hb dX6_onEnd_79 rfl (lv_at hl 4 rfl) ?_
          refine lv_iconst (v := 1) hx hb dX6_onEnd_80 (by decide) ?_
          refine lv_iadd hx hb dX6_onEnd_81 ?_
          exact w_X6_onEnd_82 C ih hP hD hS (lv_sub hl [1, 2, 3, 5, 0] rfl) h
        · replace h := it_t c72 h
          refine lv_iconst (v := 0) hx hb dX6_onEnd_75 (by decide) ?_
          refine lv_goto (tgt := 82) hx hb dX6_onEnd_76 (by decide) ?_
          exact w_X6_onEnd_82 C ih hP hD hS (lv_sub hl [1, 2, 3, 5, 0] rfl) h
def b_X6_onEnd_23 (N : Nat) (M : Mem) (x1 : Int32) (x2 : Int32) (x3 : Int32) (x4 : Int32) : Option (Int32) := b_X6_onEnd_26 N M x1 x2 N x3 x4 (0 : Int32)
set_option maxHeartbeats 4000000 in
set_option maxRecDepth 100000 in
theorem w_X6_onEnd_23 (C : CX p s m args meth c cX6_onEnd 6 (some .int) RX6 D cy ad zz 100 21 A) {N : Nat} {M : Mem} {x1 : Int32} {x2 : Int32} {rr : Int32} {x3 : Int32} {x4 : Int32} {H : Heap} {locs : List Loc} (hP : va_P D vwCl (pool cy ad 100 21 M) H) (hD : va_D A (pool cy ad 100 21 M)) (hS : va_S A s.heap H locs) {ls : Array Slot} (hl : lv_has ls 6 [(0, .ref (ad 100)), (1, .int x1), (2, .int x2), (3, .int x3), (4, .int x4)]) (h : b_X6_onEnd_23 N M x1 x2 x3 x4 = some rr) : W p l e ({ frames := 0, cells := 0, slots := 0, locals := 0 } : Room) s m args below meth c H locs 0 0 (MQ below (va_Qi (fun (x : Int32) (_ : Unit) => x = rr) (fun _ t => PA D cy ad 100 21 A M t) A) args s 0 0 A) (F0 m 23 ls []) := by
  obtain ⟨hx, hb, hml, hown, hts, hr, hlk, hK, hN, hA, hX⟩ := id C
  unfold b_X6_onEnd_23 at h
  refine lv_iconst (v := 0) hx hb dX6_onEnd_23 (by decide) ?_
  refine lv_istore (lv' := [(5, .int (0 : Int32)), (0, .ref (ad 100)), (1, .int x1), (2, .int x2), (3, .int x3), (4, .int x4)]) hx hb dX6_onEnd_24 hl (by decide) rfl (fun ls hl => ?_)
  exact w_X6_onEnd_26 C N _ _ _ _ _ hP hD hS _ (lv_sub hl [1, 2, 3, 4, 5, 0] rfl) h
def b_X6_onEnd_11 (N : Nat) (M : Mem) (x1 : Int32) (x2 : Int32) (x3 : Int32) : Option (Int32) := gd (inb (((5 : Int32) * x2) + (2 : Int32)) (len 103)) (b_X6_onEnd_23 N M x1 x2 x3 (AI M 103 (((5 : Int32) * x2) + (2 : Int32)).toNatClampNeg))
set_option maxHeartbeats 4000000 in
set_option maxRecDepth 100000 in
theorem w_X6_onEnd_11 (C : CX p s m args meth c cX6_onEnd 6 (some .int) RX6 D cy ad zz 100 21 A) {N : Nat} {M : Mem} {x1 : Int32} {x2 : Int32} {rr : Int32} {x3 : Int32} {H : Heap} {locs : List Loc} (hP : va_P D vwCl (pool cy ad 100 21 M) H) (hD : va_D A (pool cy ad 100 21 M)) (hS : va_S A s.heap H locs) {ls : Array Slot} (hl : lv_has ls 6 [(0, .ref (ad 100)), (1, .int x1), (2, .int x2), (3, .int x3)]) (h : b_X6_onEnd_11 N M x1 x2 x3 = some rr) : W p l e ({ frames := 0, cells := 0, slots := 0, locals := 0 } : Room) s m args below meth c H locs 0 0 (MQ below (va_Qi (fun (x : Int32) (_ : Unit) => x = rr) (fun _ t => PA D cy ad 100 21 A M t) A) args s 0 0 A) (F0 m 11 ls []) := by
  obtain ⟨hx, hb, hml, hown, hts, hr, hlk, hK, hN, hA, hX⟩ := id C
  unfold b_X6_onEnd_11 at h
  refine lv_aload_n hx hb dX6_onEnd_11 rfl (lv_at hl 0 rfl) ?_
  refine gf_6_3 C hP (iL (by decide)) (by decide) wd_885 dX6_onEnd_12 ?_
  refine lv_iconst (v := 5) hx hb dX6_onEnd_15 (by decide) ?_
  refine lv_iload_n hx hb dX6_onEnd_16 rfl (lv_at hl 2 rfl) ?_
  refine lv_imul hx hb dX6_onEnd_17 ?_
  refine lv_iconst (v := 2) hx hb dX6_onEnd_18 (by decide) ?_
  refine lv_iadd hx hb dX6_onEnd_19 ?_
  obtain ⟨gi1, h⟩ := gd_of h
  refine ia_ld C hP (iL (by decide)) (by decide) gi1 dX6_onEnd_20 ?_
  refine lv_istore (lv' := [(4, .int (AI M 103 (((5 : Int32) * x2) + (2 : Int32)).toNatClampNeg)), (0, .ref (ad 100)), (1, .int x1), (2, .int x2), (3, .int x3)]) hx hb dX6_onEnd_21 hl (by decide) rfl (fun ls hl => ?_)
  exact w_X6_onEnd_23 C hP hD hS (lv_sub hl [1, 2, 3, 4, 0] rfl) h
def b_X6_onEnd_0 (N : Nat) (M : Mem) (x1 : Int32) (x2 : Int32) : Option (Int32) := gd (inb (((5 : Int32) * x1) + (2 : Int32)) (len 103)) (b_X6_onEnd_11 N M x1 x2 (AI M 103 (((5 : Int32) * x1) + (2 : Int32)).toNatClampNeg))
set_option maxHeartbeats 4000000 in
set_option maxRecDepth 100000 in
theorem w_X6_onEnd_0 (C : CX p s m args meth c cX6_onEnd 6 (some .int) RX6 D cy ad zz 100 21 A) {N : Nat} {M : Mem} {x1 : Int32} {x2 : Int32} {rr : Int32} {H : Heap} {locs : List Loc} (hP : va_P D vwCl (pool cy ad 100 21 M) H) (hD : va_D A (pool cy ad 100 21 M)) (hS : va_S A s.heap H locs) {ls : Array Slot} (hl : lv_has ls 6 [(0, .ref (ad 100)), (1, .int x1), (2, .int x2)]) (h : b_X6_onEnd_0 N M x1 x2 = some rr) : W p l e ({ frames := 0, cells := 0, slots := 0, locals := 0 } : Room) s m args below meth c H locs 0 0 (MQ below (va_Qi (fun (x : Int32) (_ : Unit) => x = rr) (fun _ t => PA D cy ad 100 21 A M t) A) args s 0 0 A) (F0 m 0 ls []) := by
  obtain ⟨hx, hb, hml, hown, hts, hr, hlk, hK, hN, hA, hX⟩ := id C
  unfold b_X6_onEnd_0 at h
  refine lv_aload_n hx hb dX6_onEnd_0 rfl (lv_at hl 0 rfl) ?_
  refine gf_6_3 C hP (iL (by decide)) (by decide) wd_885 dX6_onEnd_1 ?_
  refine lv_iconst (v := 5) hx hb dX6_onEnd_4 (by decide) ?_
  refine lv_iload_n hx hb dX6_onEnd_5 rfl (lv_at hl 1 rfl) ?_
  refine lv_imul hx hb dX6_onEnd_6 ?_
  refine lv_iconst (v := 2) hx hb dX6_onEnd_7 (by decide) ?_
  refine lv_iadd hx hb dX6_onEnd_8 ?_
  obtain ⟨gi1, h⟩ := gd_of h
  refine ia_ld C hP (iL (by decide)) (by decide) gi1 dX6_onEnd_9 ?_
  refine lv_istore_n (lv' := [(3, .int (AI M 103 (((5 : Int32) * x1) + (2 : Int32)).toNatClampNeg)), (0, .ref (ad 100)), (1, .int x1), (2, .int x2)]) hx hb dX6_onEnd_10 rfl hl (by decide) rfl (fun ls hl => ?_)
  exact w_X6_onEnd_11 C hP hD hS (lv_sub hl [1, 2, 3, 0] rfl) h
def f_X6_onEnd (N : Nat) (x1 : Int32) (x2 : Int32) (M : Mem) : Option (Int32) := b_X6_onEnd_0 N M x1 x2
theorem c_X6_onEnd {l : Launch} {D : va_G} {cy : Nat → ClassId} {ad : Nat → Nat} {zz : (Nat → Nat) × (Nat → Nat)} {N : Nat} {x1 : Int32} {x2 : Int32} {M : Mem} {rr : Int32} (h : f_X6_onEnd N x1 x2 M = some rr) : CTi l D cy ad zz 100 21 yX6_onEnd (.code yX6_onEnd cX6_onEnd 6 (some .int) :: tb) ({ frames := 0, cells := 0, slots := 0, locals := 0 } : Room) [.ref (ad 100), .int x1, .int x2] M rr M := by
  intro sz
  refine CX.of (by decide +kernel) (fun p e s m args below meth c H ls C hP hD hS hl => ?_) (Nat.le_of_ble_eq_true rfl)
  exact w_X6_onEnd_0 C hP hD hS hl h
theorem ev_X6_onEnd : yX6_onEnd.cls = RX6 ∧ yX6_onEnd.cls ≠ "java/lang/invoke/MethodHandle" ∧ yX6_onEnd.cls ≠ "java/lang/invoke/VarHandle" ∧ (parseMethodDescriptor yX6_onEnd.desc).map (fun d => d.parameters.length) = some 2 := by decide +kernel
def b_X6_isSoTurned_11 (N : Nat) (M : Mem) (x1 : Int32) (x2 : Int32) (x3 : Int32) : Nat → Int32 → Int32 → Option (Bool)
  | 0, _, _ => none
  | fu + 1, x4, x5 => (if x4 ≤ x5 then some true else gd (inb (((16 : Int32) * x1) + x5) (len 104)) (gd (decide (¬ x4 = 0)) (gd (inb (((16 : Int32) * x2) + ((x5 + x3) - (x5 + x3) / x4 * x4)) (len 104)) ((if (AI M 104 (((16 : Int32) * x1) + x5).toNatClampNeg) = (AI M 104 (((16 : Int32) * x2) + ((x5 + x3) - (x5 + x3) / x4 * x4)).toNatClampNeg) then b_X6_isSoTurned_11 N M x1 x2 x3 fu x4 (x5 + (1 : Int32)) else some false)))))
set_option maxHeartbeats 4000000 in
set_option maxRecDepth 100000 in
theorem w_X6_isSoTurned_11 (C : CX p s m args meth c cX6_isSoTurned 6 (some .boolean) RX6 D cy ad zz 100 21 A) {N : Nat} {M : Mem} {x1 : Int32} {x2 : Int32} {x3 : Int32} {rr : Bool}  : ∀ (fu : Nat), ∀ (x4 : Int32), ∀ (x5 : Int32), ∀ (H : Heap) (locs : List Loc), va_P D vwCl (pool cy ad 100 21 M) H → va_D A (pool cy ad 100 21 M) → va_S A s.heap H locs → ∀ (ls : Array Slot), lv_has ls 6 [(0, .ref (ad 100)), (1, .int x1), (2, .int x2), (3, .int x3), (4, .int x4), (5, .int x5)] → b_X6_isSoTurned_11 N M x1 x2 x3 fu x4 x5 = some rr → W p l e ({ frames := 0, cells := 0, slots := 0, locals := 0 } : Room) s m args below meth c H locs 0 0 (MQ below (va_Qi (fun (x : Int32) (_ : Unit) => x = b2i rr) (fun _ t => PA D cy ad 100 21 A M t) A) args s 0 0 A) (F0 m 11 ls []) := by
  obtain ⟨hx, hb, hml, hown, hts, hr, hlk, hK, hN, hA, hX⟩ := id C
  intro fu
  induction fu with
  | zero =>
    intro x4 x5 H locs hP hD hS ls hl h
    exact no_some (show none = some _ from h)
  | succ fu ih =>
    intro x4 x5 H locs hP hD hS ls hl h
    rw [b_X6_isSoTurned_11] at h
    refine lv_iload hx hb dX6_isSoTurned_11 (lv_at hl 5 rfl) ?_
    refine lv_iload hx hb dX6_isSoTurned_13 (lv_at hl 4 rfl) ?_
    refine lv_icmp_ge (tgt := 58) hx hb dX6_isSoTurned_15 (by decide) (fun c15 => ?_) (fun c15 => ?_)
    · replace h := it_t c15 h
      refine lv_iconst (v := 1) hx hb dX6_isSoTurned_58 (by decide) ?_
      exact rt_z (r := true) C hP hD hS dX6_isSoTurned_59 ⟨Option.some.inj h, rfl⟩
    · replace h := it_f c15 h
      refine lv_aload_n hx hb dX6_isSoTurned_18 rfl (lv_at hl 0 rfl) ?_
      refine gf_6_4 C hP (iL (by decide)) (by decide) wd_886 dX6_isSoTurned_19 ?_
      refine lv_bipush (v := 16) hx hb dX6_isSoTurned_22 (by decide) ?_
      refine lv_iload_n hx hb dX6_isSoTurned_24 rfl (lv_at hl 1 rfl) ?_
      refine lv_imul hx hb dX6_isSoTurned_25 ?_
      refine lv_iload hx hb dX6_isSoTurned_26 (lv_at hl 5 rfl) ?_
      refine lv_iadd hx hb dX6_isSoTurned_28 ?_
      obtain ⟨gi1, h⟩ := gd_of h
      refine ia_ld C hP (iL (by decide)) (by decide) gi1 dX6_isSoTurned_29 ?_
      refine lv_aload_n hx hb dX6_isSoTurned_30 rfl (lv_at hl 0 rfl) ?_
      refine gf_6_4 C hP (iL (by decide)) (by decide) wd_886 dX6_isSoTurned_31 ?_
      refine lv_bipush (v := 16) hx hb dX6_isSoTurned_34 (by decide) ?_
      refine lv_iload_n hx hb dX6_isSoTurned_36 rfl (lv_at hl 2 rfl) ?_
      refine lv_imul hx hb dX6_isSoTurned_37 ?_
      refine lv_iload hx hb dX6_isSoTurned_38 (lv_at hl 5 rfl) ?_
      refine lv_iload_n hx hb dX6_isSoTurned_40 rfl (lv_at hl 3 rfl) ?_
      refine lv_iadd hx hb dX6_isSoTurned_41 ?_
      refine lv_iload hx hb dX6_isSoTurned_42 (lv_at hl 4 rfl) ?_
      obtain ⟨gz2, h⟩ := gd_of h
      refine lv_irem hx hb dX6_isSoTurned_44 (of_decide_eq_true gz2) ?_
      refine lv_iadd hx hb dX6_isSoTurned_45 ?_
      obtain ⟨gi3, h⟩ := gd_of h
      refine ia_ld C hP (iL (by decide)) (by decide) gi3 dX6_isSoTurned_46 ?_
      refine lv_icmp_eq (tgt := 52) hx hb dX6_isSoTurned_47 (by decide) (fun c47 => ?_) (fun c47 => ?_)
      · replace h := it_t c47 h
        refine lv_iinc (v := (x5 + (1 : Int32))) (lv' := [(5, .int (x5 + (1 : Int32))), (0, .ref (ad 100)), (1, .int x1), (2, .int x2), (3, .int x3), (4, .int x4)]) hx hb dX6_isSoTurned_52 hl (k := 5) rfl rfl (by decide) rfl (fun ls hl => ?_)
        refine lv_goto (tgt := 11) hx hb dX6_isSoTurned_55 (by decide) ?_
        exact ih _ _ _ _ hP hD hS _ (lv_sub hl [1, 2, 3, 4, 5, 0] rfl) h
      · replace h := it_f c47 h
        refine lv_iconst (v := 0) hx hb dX6_isSoTurned_50 (by decide) ?_
        exact rt_z (r := false) C hP hD hS dX6_isSoTurned_51 ⟨Option.some.inj h, rfl⟩
def b_X6_isSoTurned_0 (N : Nat) (M : Mem) (x1 : Int32) (x2 : Int32) (x3 : Int32) : Option (Bool) := gd (inb x1 (len 105)) (b_X6_isSoTurned_11 N M x1 x2 x3 N (AI M 105 x1.toNatClampNeg) (0 : Int32))
set_option maxHeartbeats 4000000 in
set_option maxRecDepth 100000 in
theorem w_X6_isSoTurned_0 (C : CX p s m args meth c cX6_isSoTurned 6 (some .boolean) RX6 D cy ad zz 100 21 A) {N : Nat} {M : Mem} {x1 : Int32} {x2 : Int32} {x3 : Int32} {rr : Bool} {H : Heap} {locs : List Loc} (hP : va_P D vwCl (pool cy ad 100 21 M) H) (hD : va_D A (pool cy ad 100 21 M)) (hS : va_S A s.heap H locs) {ls : Array Slot} (hl : lv_has ls 6 [(0, .ref (ad 100)), (1, .int x1), (2, .int x2), (3, .int x3)]) (h : b_X6_isSoTurned_0 N M x1 x2 x3 = some rr) : W p l e ({ frames := 0, cells := 0, slots := 0, locals := 0 } : Room) s m args below meth c H locs 0 0 (MQ below (va_Qi (fun (x : Int32) (_ : Unit) => x = b2i rr) (fun _ t => PA D cy ad 100 21 A M t) A) args s 0 0 A) (F0 m 0 ls []) := by
  obtain ⟨hx, hb, hml, hown, hts, hr, hlk, hK, hN, hA, hX⟩ := id C
  unfold b_X6_isSoTurned_0 at h
  refine lv_aload_n hx hb dX6_isSoTurned_0 rfl (lv_at hl 0 rfl) ?_
  refine gf_6_5 C hP (iL (by decide)) (by decide) wd_887 dX6_isSoTurned_1 ?_
  refine lv_iload_n hx hb dX6_isSoTurned_4 rfl (lv_at hl 1 rfl) ?_
  obtain ⟨gi1, h⟩ := gd_of h
  refine ia_ld C hP (iL (by decide)) (by decide) gi1 dX6_isSoTurned_5 ?_
  refine lv_istore (lv' := [(4, .int (AI M 105 x1.toNatClampNeg)), (0, .ref (ad 100)), (1, .int x1), (2, .int x2), (3, .int x3)]) hx hb dX6_isSoTurned_6 hl (by decide) rfl (fun ls hl => ?_)
  refine lv_iconst (v := 0) hx hb dX6_isSoTurned_8 (by decide) ?_
  refine lv_istore (lv' := [(5, .int (0 : Int32)), (4, .int (AI M 105 x1.toNatClampNeg)), (0, .ref (ad 100)), (1, .int x1), (2, .int x2), (3, .int x3)]) hx hb dX6_isSoTurned_9 hl (by decide) rfl (fun ls hl => ?_)
  exact w_X6_isSoTurned_11 C N _ _ _ _ hP hD hS _ (lv_sub hl [2, 3, 4, 5, 1, 0] rfl) h
def f_X6_isSoTurned (N : Nat) (x1 : Int32) (x2 : Int32) (x3 : Int32) (M : Mem) : Option (Bool) := b_X6_isSoTurned_0 N M x1 x2 x3
theorem c_X6_isSoTurned {l : Launch} {D : va_G} {cy : Nat → ClassId} {ad : Nat → Nat} {zz : (Nat → Nat) × (Nat → Nat)} {N : Nat} {x1 : Int32} {x2 : Int32} {x3 : Int32} {M : Mem} {rr : Bool} (h : f_X6_isSoTurned N x1 x2 x3 M = some rr) : CTi l D cy ad zz 100 21 yX6_isSoTurned (.code yX6_isSoTurned cX6_isSoTurned 6 (some .boolean) :: tb) ({ frames := 0, cells := 0, slots := 0, locals := 0 } : Room) [.ref (ad 100), .int x1, .int x2, .int x3] M (b2i rr) M := by
  intro sz
  refine CX.of (by decide +kernel) (fun p e s m args below meth c H ls C hP hD hS hl => ?_) (Nat.le_of_ble_eq_true rfl)
  exact w_X6_isSoTurned_0 C hP hD hS hl h
theorem ev_X6_isSoTurned : yX6_isSoTurned.cls = RX6 ∧ yX6_isSoTurned.cls ≠ "java/lang/invoke/MethodHandle" ∧ yX6_isSoTurned.cls ≠ "java/lang/invoke/VarHandle" ∧ (parseMethodDescriptor yX6_isSoTurned.desc).map (fun d => d.parameters.length) = some 3 := by decide +kernel
def b_X6_turnedBy_19 (N : Nat) (M : Mem) (x1 : Int32) (x2 : Int32) : Nat → Int32 → Option (Int32)
  | 0, _ => none
  | fu + 1, x3 => gd (inb x1 (len 105)) ((if (AI M 105 x1.toNatClampNeg) ≤ x3 then some (-1 : Int32) else (f_X6_isSoTurned N x1 x2 x3 M).bind fun r33 => (if r33 = true then some x3 else b_X6_turnedBy_19 N M x1 x2 fu (x3 + (1 : Int32)))))
set_option maxHeartbeats 4000000 in
set_option maxRecDepth 100000 in
theorem w_X6_turnedBy_19 (C : CX p s m args meth c cX6_turnedBy 4 (some .int) RX6 D cy ad zz 100 21 A) {N : Nat} {M : Mem} {x1 : Int32} {x2 : Int32} {rr : Int32}  : ∀ (fu : Nat), ∀ (x3 : Int32), ∀ (H : Heap) (locs : List Loc), va_P D vwCl (pool cy ad 100 21 M) H → va_D A (pool cy ad 100 21 M) → va_S A s.heap H locs → ∀ (ls : Array Slot), lv_has ls 4 [(0, .ref (ad 100)), (1, .int x1), (2, .int x2), (3, .int x3)] → b_X6_turnedBy_19 N M x1 x2 fu x3 = some rr → W p l e ({ frames := 1, cells := 0, slots := 0, locals := 25 } : Room) s m args below meth c H locs 0 0 (MQ below (va_Qi (fun (x : Int32) (_ : Unit) => x = rr) (fun _ t => PA D cy ad 100 21 A M t) A) args s 0 0 A) (F0 m 19 ls []) := by
  obtain ⟨hx, hb, hml, hown, hts, hr, hlk, hK, hN, hA, hX⟩ := id C
  intro fu
  induction fu with
  | zero =>
    intro x3 H locs hP hD hS ls hl h
    exact no_some (show none = some _ from h)
  | succ fu ih =>
    intro x3 H locs hP hD hS ls hl h
    rw [b_X6_turnedBy_19] at h
    refine lv_iload_n hx hb dX6_turnedBy_19 rfl (lv_at hl 3 rfl) ?_
    refine lv_aload_n hx hb dX6_turnedBy_20 rfl (lv_at hl 0 rfl) ?_
    refine gf_6_5 C hP (iL (by decide)) (by decide) wd_887 dX6_turnedBy_21 ?_
    refine lv_iload_n hx hb dX6_turnedBy_24 rfl (lv_at hl 1 rfl) ?_
    obtain ⟨gi1, h⟩ := gd_of h
    refine ia_ld C hP (iL (by decide)) (by decide) gi1 dX6_turnedBy_25 ?_
    refine lv_icmp_ge (tgt := 47) hx hb dX6_turnedBy_26 (by decide) (fun c26 => ?_) (fun c26 => ?_)
    · replace h := it_t c26 h
      refine lv_iconst (v := -1) hx hb dX6_turnedBy_47 (by decide) ?_
      exact rt_i (r := (-1 : Int32)) C hP hD hS dX6_turnedBy_48 ⟨Option.some.inj h, rfl⟩
    · replace h := it_f c26 h
      refine lv_aload_n hx hb dX6_turnedBy_29 rfl (lv_at hl 0 rfl) ?_
      refine lv_iload_n hx hb dX6_turnedBy_30 rfl (lv_at hl 1 rfl) ?_
      refine lv_iload_n hx hb dX6_turnedBy_31 rfl (lv_at hl 2 rfl) ?_
      refine lv_iload_n hx hb dX6_turnedBy_32 rfl (lv_at hl 3 rfl) ?_
      obtain ⟨r33, g33, h⟩ := bd_of h
      refine call_iV (As := [.int x1, .int x2, .int x3]) (rest := []) C hP hD hS (c_X6_isSoTurned g33) (iL (by decide)) ⟨6, _, _, ent_6 (by decide), rfl, rfl⟩ (gV wd_1157 wd_1159 wd_56 wd_75 wd_1160) ev_X6_isSoTurned ⟨rfl, rfl⟩ ⟨Nat.le_of_ble_eq_true rfl, Nat.le_of_ble_eq_true rfl⟩ hl.1 rfl (Nat.le_of_ble_eq_true rfl) dX6_turnedBy_33 (fun H locs hP hD hS => ?_)
      refine lv_if_eq (tgt := 41) hx hb dX6_turnedBy_36 (by decide) (fun c36 => ?_) (fun c36 => ?_)
      · replace h := it_f (b2i_n c36) h
        refine lv_iinc (v := (x3 + (1 : Int32))) (lv' := [(3, .int (x3 + (1 : Int32))), (0, .ref (ad 100)), (1, .int x1), (2, .int x2)]) hx hb dX6_turnedBy_41 hl (k := 3) rfl rfl (by decide) rfl (fun ls hl => ?_)
        refine lv_goto (tgt := 19) hx hb dX6_turnedBy_44 (by decide) ?_
        exact ih _ _ _ hP hD hS _ (lv_sub hl [1, 2, 3, 0] rfl) h
      · replace h := it_t (b2i_1 c36) h
        refine lv_iload_n hx hb dX6_turnedBy_39 rfl (lv_at hl 3 rfl) ?_
        exact rt_i (r := x3) C hP hD hS dX6_turnedBy_40 ⟨Option.some.inj h, rfl⟩
def b_X6_turnedBy_0 (N : Nat) (M : Mem) (x1 : Int32) (x2 : Int32) : Option (Int32) := gd (inb x1 (len 105)) (gd (inb x2 (len 105)) ((if (AI M 105 x1.toNatClampNeg) = (AI M 105 x2.toNatClampNeg) then b_X6_turnedBy_19 N M x1 x2 N (0 : Int32) else some (-1 : Int32))))
set_option maxHeartbeats 4000000 in
set_option maxRecDepth 100000 in
theorem w_X6_turnedBy_0 (C : CX p s m args meth c cX6_turnedBy 4 (some .int) RX6 D cy ad zz 100 21 A) {N : Nat} {M : Mem} {x1 : Int32} {x2 : Int32} {rr : Int32} {H : Heap} {locs : List Loc} (hP : va_P D vwCl (pool cy ad 100 21 M) H) (hD : va_D A (pool cy ad 100 21 M)) (hS : va_S A s.heap H locs) {ls : Array Slot} (hl : lv_has ls 4 [(0, .ref (ad 100)), (1, .int x1), (2, .int x2)]) (h : b_X6_turnedBy_0 N M x1 x2 = some rr) : W p l e ({ frames := 1, cells := 0, slots := 0, locals := 25 } : Room) s m args below meth c H locs 0 0 (MQ below (va_Qi (fun (x : Int32) (_ : Unit) => x = rr) (fun _ t => PA D cy ad 100 21 A M t) A) args s 0 0 A) (F0 m 0 ls []) := by
  obtain ⟨hx, hb, hml, hown, hts, hr, hlk, hK, hN, hA, hX⟩ := id C
  unfold b_X6_turnedBy_0 at h
  refine lv_aload_n hx hb dX6_turnedBy_0 rfl (lv_at hl 0 rfl) ?_
  refine gf_6_5 C hP (iL (by decide)) (by decide) wd_887 dX6_turnedBy_1 ?_
  refine lv_iload_n hx hb dX6_turnedBy_4 rfl (lv_at hl 1 rfl) ?_
  obtain ⟨gi1, h⟩ := gd_of h
  refine ia_ld C hP (iL (by decide)) (by decide) gi1 dX6_turnedBy_5 ?_
  refine lv_aload_n hx hb dX6_turnedBy_6 rfl (lv_at hl 0 rfl) ?_
  refine gf_6_5 C hP (iL (by decide)) (by decide) wd_887 dX6_turnedBy_7 ?_
  refine lv_iload_n hx hb dX6_turnedBy_10 rfl (lv_at hl 2 rfl) ?_
  obtain ⟨gi2, h⟩ := gd_of h
  refine ia_ld C hP (iL (by decide)) (by decide) gi2 dX6_turnedBy_11 ?_
  refine lv_icmp_eq (tgt := 17) hx hb dX6_turnedBy_12 (by decide) (fun c12 => ?_) (fun c12 => ?_)
  · replace h := it_t c12 h
    refine lv_iconst (v := 0) hx hb dX6_turnedBy_17 (by decide) ?_
    refine lv_istore_n (lv' := [(3, .int (0 : Int32)), (0, .ref (ad 100)), (1, .int x1), (2, .int x2)]) hx hb dX6_turnedBy_18 rfl hl (by decide) rfl (fun ls hl => ?_)
    exact w_X6_turnedBy_19 C N _ _ _ hP hD hS _ (lv_sub hl [1, 2, 3, 0] rfl) h
  · replace h := it_f c12 h
    refine lv_iconst (v := -1) hx hb dX6_turnedBy_15 (by decide) ?_
    exact rt_i (r := (-1 : Int32)) C hP hD hS dX6_turnedBy_16 ⟨Option.some.inj h, rfl⟩
def f_X6_turnedBy (N : Nat) (x1 : Int32) (x2 : Int32) (M : Mem) : Option (Int32) := b_X6_turnedBy_0 N M x1 x2
theorem c_X6_turnedBy {l : Launch} {D : va_G} {cy : Nat → ClassId} {ad : Nat → Nat} {zz : (Nat → Nat) × (Nat → Nat)} {N : Nat} {x1 : Int32} {x2 : Int32} {M : Mem} {rr : Int32} (h : f_X6_turnedBy N x1 x2 M = some rr) : CTi l D cy ad zz 100 21 yX6_turnedBy (.code yX6_turnedBy cX6_turnedBy 4 (some .int) :: tb) ({ frames := 1, cells := 0, slots := 0, locals := 25 } : Room) [.ref (ad 100), .int x1, .int x2] M rr M := by
  intro sz
  refine CX.of (by decide +kernel) (fun p e s m args below meth c H ls C hP hD hS hl => ?_) (Nat.le_of_ble_eq_true rfl)
  exact w_X6_turnedBy_0 C hP hD hS hl h
theorem ev_X6_turnedBy : yX6_turnedBy.cls = RX6 ∧ yX6_turnedBy.cls ≠ "java/lang/invoke/MethodHandle" ∧ yX6_turnedBy.cls ≠ "java/lang/invoke/VarHandle" ∧ (parseMethodDescriptor yX6_turnedBy.desc).map (fun d => d.parameters.length) = some 2 := by decide +kernel
def b_X6_alike_0 (N : Nat) (M : Mem) (x1 : Int32) (x2 : Int32) (x3 : Int32) : Option (Int32) := (f_X6_isOne x1 M).bind fun r2 => (if r2 = true then (f_X6_isOne x2 M).bind fun r10 => (if r10 = true then (f_X6_in x3 (0 : Int32) (1 : Int32) M).bind fun r22 => (if r22 = true then (if x3 = 0 then (f_X6_onEnd N x1 x2 M).bind fun r38 => some r38 else (f_X6_turnedBy N x1 x2 M).bind fun r47 => some r47) else some (-7 : Int32)) else some (-5 : Int32)) else some (-5 : Int32))
set_option maxHeartbeats 4000000 in
set_option maxRecDepth 100000 in
theorem w_X6_alike_0 (C : CX p s m args meth c cX6_alike 4 (some .int) RX6 D cy ad zz 100 21 A) {N : Nat} {M : Mem} {x1 : Int32} {x2 : Int32} {x3 : Int32} {rr : Int32} {H : Heap} {locs : List Loc} (hP : va_P D vwCl (pool cy ad 100 21 M) H) (hD : va_D A (pool cy ad 100 21 M)) (hS : va_S A s.heap H locs) {ls : Array Slot} (hl : lv_has ls 4 [(0, .ref (ad 100)), (1, .int x1), (2, .int x2), (3, .int x3)]) (h : b_X6_alike_0 N M x1 x2 x3 = some rr) : W p l e ({ frames := 2, cells := 0, slots := 0, locals := 48 } : Room) s m args below meth c H locs 0 0 (MQ below (va_Qi (fun (x : Int32) (_ : Unit) => x = rr) (fun _ t => PA D cy ad 100 21 A M t) A) args s 0 0 A) (F0 m 0 ls []) := by
  obtain ⟨hx, hb, hml, hown, hts, hr, hlk, hK, hN, hA, hX⟩ := id C
  unfold b_X6_alike_0 at h
  refine lv_aload_n hx hb dX6_alike_0 rfl (lv_at hl 0 rfl) ?_
  refine lv_iload_n hx hb dX6_alike_1 rfl (lv_at hl 1 rfl) ?_
  obtain ⟨r2, g2, h⟩ := bd_of h
  refine call_iV (As := [.int x1]) (rest := []) C hP hD hS (c_X6_isOne g2) (iL (by decide)) ⟨6, _, _, ent_6 (by decide), rfl, rfl⟩ (gV wd_1034 wd_1036 wd_39 wd_75 wd_1037) ev_X6_isOne ⟨rfl, rfl⟩ ⟨Nat.le_of_ble_eq_true rfl, Nat.le_of_ble_eq_true rfl⟩ hl.1 rfl (Nat.le_of_ble_eq_true rfl) dX6_alike_2 (fun H locs hP hD hS => ?_)
  refine lv_if_eq (tgt := 16) hx hb dX6_alike_5 (by decide) (fun c5 => ?_) (fun c5 => ?_)
  · replace h := it_f (b2i_n c5) h
    refine lv_bipush (v := -5) hx hb dX6_alike_16 (by decide) ?_
    exact rt_i (r := (-5 : Int32)) C hP hD hS dX6_alike_18 ⟨Option.some.inj h, rfl⟩
  · replace h := it_t (b2i_1 c5) h
    refine lv_aload_n hx hb dX6_alike_8 rfl (lv_at hl 0 rfl) ?_
    refine lv_iload_n hx hb dX6_alike_9 rfl (lv_at hl 2 rfl) ?_
    obtain ⟨r10, g10, h⟩ := bd_of h
    refine call_iV (As := [.int x2]) (rest := []) C hP hD hS (c_X6_isOne g10) (iL (by decide)) ⟨6, _, _, ent_6 (by decide), rfl, rfl⟩ (gV wd_1034 wd_1036 wd_39 wd_75 wd_1037) ev_X6_isOne ⟨rfl, rfl⟩ ⟨Nat.le_of_ble_eq_true rfl, Nat.le_of_ble_eq_true rfl⟩ hl.1 rfl (Nat.le_of_ble_eq_true rfl) dX6_alike_10 (fun H locs hP hD hS => ?_)
    refine lv_if_ne (tgt := 19) hx hb dX6_alike_13 (by decide) (fun c13 => ?_) (fun c13 => ?_)
    · replace h := it_t (b2i_1 c13) h
      refine lv_iload_n hx hb dX6_alike_19 rfl (lv_at hl 3 rfl) ?_
      refine lv_iconst (v := 0) hx hb dX6_alike_20 (by decide) ?_
      refine lv_iconst (v := 1) hx hb dX6_alike_21 (by decide) ?_
      obtain ⟨r22, g22, h⟩ := bd_of h
      refine call_iS (As := [.int x3, .int (0 : Int32), .int (1 : Int32)]) (rest := []) C hP hD hS (c_X6_in g22) (gS wd_843 wd_844 wd_75 wd_845) es_X6_in ⟨rfl, rfl⟩ ⟨Nat.le_of_ble_eq_true rfl, Nat.le_of_ble_eq_true rfl⟩ hl.1 rfl (Nat.le_of_ble_eq_true rfl) dX6_alike_22 (fun H locs hP hD hS => ?_)
      refine lv_if_ne (tgt := 31) hx hb dX6_alike_25 (by decide) (fun c25 => ?_) (fun c25 => ?_)
      · replace h := it_t (b2i_1 c25) h
        refine lv_iload_n hx hb dX6_alike_31 rfl (lv_at hl 3 rfl) ?_
        refine lv_if_ne (tgt := 44) hx hb dX6_alike_32 (by decide) (fun c32 => ?_) (fun c32 => ?_)
        · replace h := it_f c32 h
          refine lv_aload_n hx hb dX6_alike_44 rfl (lv_at hl 0 rfl) ?_
          refine lv_iload_n hx hb dX6_alike_45 rfl (lv_at hl 1 rfl) ?_
          refine lv_iload_n hx hb dX6_alike_46 rfl (lv_at hl 2 rfl) ?_
          obtain ⟨r47, g47, h⟩ := bd_of h
          refine call_iV (As := [.int x1, .int x2]) (rest := []) C hP hD hS (c_X6_turnedBy g47) (iL (by decide)) ⟨6, _, _, ent_6 (by decide), rfl, rfl⟩ (gV wd_1153 wd_1155 wd_55 wd_75 wd_1156) ev_X6_turnedBy ⟨rfl, rfl⟩ ⟨Nat.le_of_ble_eq_true rfl, Nat.le_of_ble_eq_true rfl⟩ hl.1 rfl (Nat.le_of_ble_eq_true rfl) dX6_alike_47 (fun H locs hP hD hS => ?_)
          exact rt_i (r := r47) C hP hD hS dX6_alike_50 ⟨Option.some.inj h, rfl⟩
        · replace h := it_t c32 h
          refine lv_aload_n hx hb dX6_alike_35 rfl (lv_at hl 0 rfl) ?_
          refine lv_iload_n hx hb dX6_alike_36 rfl (lv_at hl 1 rfl) ?_
          refine lv_iload_n hx hb dX6_alike_37 rfl (lv_at hl 2 rfl) ?_
          obtain ⟨r38, g38, h⟩ := bd_of h
          refine call_iV (As := [.int x1, .int x2]) (rest := []) C hP hD hS (c_X6_onEnd g38) (iL (by decide)) ⟨6, _, _, ent_6 (by decide), rfl, rfl⟩ (gV wd_1149 wd_1151 wd_54 wd_75 wd_1152) ev_X6_onEnd ⟨rfl, rfl⟩ ⟨Nat.le_of_ble_eq_true rfl, Nat.le_of_ble_eq_true rfl⟩ hl.1 rfl (Nat.le_of_ble_eq_true rfl) dX6_alike_38 (fun H locs hP hD hS => ?_)
          refine lv_goto (tgt := 50) hx hb dX6_alike_41 (by decide) ?_
          exact rt_i (r := r38) C hP hD hS dX6_alike_50 ⟨Option.some.inj h, rfl⟩
      · replace h := it_f (b2i_n c25) h
        refine lv_bipush (v := -7) hx hb dX6_alike_28 (by decide) ?_
        exact rt_i (r := (-7 : Int32)) C hP hD hS dX6_alike_30 ⟨Option.some.inj h, rfl⟩
    · replace h := it_f (b2i_n c13) h
      refine lv_bipush (v := -5) hx hb dX6_alike_16 (by decide) ?_
      exact rt_i (r := (-5 : Int32)) C hP hD hS dX6_alike_18 ⟨Option.some.inj h, rfl⟩
def f_X6_alike (N : Nat) (x1 : Int32) (x2 : Int32) (x3 : Int32) (M : Mem) : Option (Int32) := b_X6_alike_0 N M x1 x2 x3
theorem c_X6_alike {l : Launch} {D : va_G} {cy : Nat → ClassId} {ad : Nat → Nat} {zz : (Nat → Nat) × (Nat → Nat)} {N : Nat} {x1 : Int32} {x2 : Int32} {x3 : Int32} {M : Mem} {rr : Int32} (h : f_X6_alike N x1 x2 x3 M = some rr) : CTi l D cy ad zz 100 21 yX6_alike (.code yX6_alike cX6_alike 4 (some .int) :: tb) ({ frames := 2, cells := 0, slots := 0, locals := 48 } : Room) [.ref (ad 100), .int x1, .int x2, .int x3] M rr M := by
  intro sz
  refine CX.of (by decide +kernel) (fun p e s m args below meth c H ls C hP hD hS hl => ?_) (Nat.le_of_ble_eq_true rfl)
  exact w_X6_alike_0 C hP hD hS hl h
theorem ev_X6_alike : yX6_alike.cls = RX6 ∧ yX6_alike.cls ≠ "java/lang/invoke/MethodHandle" ∧ yX6_alike.cls ≠ "java/lang/invoke/VarHandle" ∧ (parseMethodDescriptor yX6_alike.desc).map (fun d => d.parameters.length) = some 3 := by decide +kernel
def b_X6_farOf_40 (M : Mem) (x0 : Int32) (x1 : Int32) (t0 : Int32) (t1 : Int32) : Option (Int32) := some (t0 + t1)
set_option maxHeartbeats 4000000 in
set_option maxRecDepth 100000 in
theorem w_X6_farOf_40 (C : CX p s m args meth c cX6_farOf 4 (some .int) RX6 D cy ad zz 100 21 A) {M : Mem} {x0 : Int32} {x1 : Int32} {rr : Int32} {t0 : Int32} {t1 : Int32} {H : Heap} {locs : List Loc} (hP : va_P D vwCl (pool cy ad 100 21 M) H) (hD : va_D A (pool cy ad 100 21 M)) (hS : va_S A s.heap H locs) {ls : Array Slot} (hl : lv_has ls 4 []) (h : b_X6_farOf_40 M x0 x1 t0 t1 = some rr) : W p l e ({ frames := 0, cells := 0, slots := 0, locals := 0 } : Room) s m args below meth c H locs 0 0 (MQ below (va_Qi (fun (x : Int32) (_ : Unit) => x = rr) (fun _ t => PA D cy ad 100 21 A M t) A) args s 0 0 A) (F0 m 40 ls [.int t1, .int t0]) := by
  obtain ⟨hx, hb, hml, hown, hts, hr, hlk, hK, hN, hA, hX⟩ := id C
  unfold b_X6_farOf_40 at h
  refine lv_iadd hx hb dX6_farOf_40 ?_
  exact rt_i (r := (t0 + t1)) C hP hD hS dX6_farOf_41 ⟨Option.some.inj h, rfl⟩
def b_X6_farOf_30 (M : Mem) (x0 : Int32) (x1 : Int32) (x3 : Int32) (t0 : Int32) : Option (Int32) := (if 0 ≤ x3 then b_X6_farOf_40 M x0 x1 t0 x3 else b_X6_farOf_40 M x0 x1 t0 (-x3))
set_option maxHeartbeats 4000000 in
set_option maxRecDepth 100000 in
theorem w_X6_farOf_30 (C : CX p s m args meth c cX6_farOf 4 (some .int) RX6 D cy ad zz 100 21 A) {M : Mem} {x0 : Int32} {x1 : Int32} {rr : Int32} {x3 : Int32} {t0 : Int32} {H : Heap} {locs : List Loc} (hP : va_P D vwCl (pool cy ad 100 21 M) H) (hD : va_D A (pool cy ad 100 21 M)) (hS : va_S A s.heap H locs) {ls : Array Slot} (hl : lv_has ls 4 [(3, .int x3)]) (h : b_X6_farOf_30 M x0 x1 x3 t0 = some rr) : W p l e ({ frames := 0, cells := 0, slots := 0, locals := 0 } : Room) s m args below meth c H locs 0 0 (MQ below (va_Qi (fun (x : Int32) (_ : Unit) => x = rr) (fun _ t => PA D cy ad 100 21 A M t) A) args s 0 0 A) (F0 m 30 ls [.int t0]) := by
  obtain ⟨hx, hb, hml, hown, hts, hr, hlk, hK, hN, hA, hX⟩ := id C
  unfold b_X6_farOf_30 at h
  refine lv_iload_n hx hb dX6_farOf_30 rfl (lv_at hl 0 rfl) ?_
  refine lv_if_ge (tgt := 39) hx hb dX6_farOf_31 (by decide) (fun c31 => ?_) (fun c31 => ?_)
  · replace h := it_t c31 h
    refine lv_iload_n hx hb dX6_farOf_39 rfl (lv_at hl 0 rfl) ?_
    exact w_X6_farOf_40 C hP hD hS (lv_sub hl [] rfl) h
  · replace h := it_f c31 h
    refine lv_iload_n hx hb dX6_farOf_34 rfl (lv_at hl 0 rfl) ?_
    refine lv_ineg hx hb dX6_farOf_35 ?_
    refine lv_goto (tgt := 40) hx hb dX6_farOf_36 (by decide) ?_
    exact w_X6_farOf_40 C hP hD hS (lv_sub hl [] rfl) h
def b_X6_farOf_10 (M : Mem) (x0 : Int32) (x1 : Int32) (x2 : Int32) : Option (Int32) := (if 0 ≤ x2 then b_X6_farOf_30 M x0 x1 ((x0 / (8 : Int32)) - (x1 / (8 : Int32))) x2 else b_X6_farOf_30 M x0 x1 ((x0 / (8 : Int32)) - (x1 / (8 : Int32))) (-x2))
set_option maxHeartbeats 4000000 in
set_option maxRecDepth 100000 in
theorem w_X6_farOf_10 (C : CX p s m args meth c cX6_farOf 4 (some .int) RX6 D cy ad zz 100 21 A) {M : Mem} {x0 : Int32} {x1 : Int32} {rr : Int32} {x2 : Int32} {H : Heap} {locs : List Loc} (hP : va_P D vwCl (pool cy ad 100 21 M) H) (hD : va_D A (pool cy ad 100 21 M)) (hS : va_S A s.heap H locs) {ls : Array Slot} (hl : lv_has ls 4 [(0, .int x0), (1, .int x1), (2, .int x2)]) (h : b_X6_farOf_10 M x0 x1 x2 = some rr) : W p l e ({ frames := 0, cells := 0, slots := 0, locals := 0 } : Room) s m args below meth c H locs 0 0 (MQ below (va_Qi (fun (x : Int32) (_ : Unit) => x = rr) (fun _ t => PA D cy ad 100 21 A M t) A) args s 0 0 A) (F0 m 10 ls []) := by
  obtain ⟨hx, hb, hml, hown, hts, hr, hlk, hK, hN, hA, hX⟩ := id C
  unfold b_X6_farOf_10 at h
  refine lv_iload_n hx hb dX6_farOf_10 rfl (lv_at hl 0 rfl) ?_
  refine lv_bipush (v := 8) hx hb dX6_farOf_11 (by decide) ?_
  refine lv_idiv hx hb dX6_farOf_13 (by decide) ?_
  refine lv_iload_n hx hb dX6_farOf_14 rfl (lv_at hl 1 rfl) ?_
  refine lv_bipush (v := 8) hx hb dX6_farOf_15 (by decide) ?_
  refine lv_idiv hx hb dX6_farOf_17 (by decide) ?_
  refine lv_isub hx hb dX6_farOf_18 ?_
  refine lv_istore_n (lv' := [(3, .int ((x0 / (8 : Int32)) - (x1 / (8 : Int32)))), (0, .int x0), (1, .int x1), (2, .int x2)]) hx hb dX6_farOf_19 rfl hl (by decide) rfl (fun ls hl => ?_)
  refine lv_iload_n hx hb dX6_farOf_20 rfl (lv_at hl 3 rfl) ?_
  refine lv_if_ge (tgt := 29) hx hb dX6_farOf_21 (by decide) (fun c21 => ?_) (fun c21 => ?_)
  · replace h := it_t c21 h
    refine lv_iload_n hx hb dX6_farOf_29 rfl (lv_at hl 3 rfl) ?_
    exact w_X6_farOf_30 C hP hD hS (lv_sub hl [0] rfl) h
  · replace h := it_f c21 h
    refine lv_iload_n hx hb dX6_farOf_24 rfl (lv_at hl 3 rfl) ?_
    refine lv_ineg hx hb dX6_farOf_25 ?_
    refine lv_goto (tgt := 30) hx hb dX6_farOf_26 (by decide) ?_
    exact w_X6_farOf_30 C hP hD hS (lv_sub hl [0] rfl) h
def b_X6_farOf_0 (M : Mem) (x0 : Int32) (x1 : Int32) : Option (Int32) := b_X6_farOf_10 M x0 x1 ((x0 - x0 / (8 : Int32) * (8 : Int32)) - (x1 - x1 / (8 : Int32) * (8 : Int32)))
set_option maxHeartbeats 4000000 in
set_option maxRecDepth 100000 in
theorem w_X6_farOf_0 (C : CX p s m args meth c cX6_farOf 4 (some .int) RX6 D cy ad zz 100 21 A) {M : Mem} {x0 : Int32} {x1 : Int32} {rr : Int32} {H : Heap} {locs : List Loc} (hP : va_P D vwCl (pool cy ad 100 21 M) H) (hD : va_D A (pool cy ad 100 21 M)) (hS : va_S A s.heap H locs) {ls : Array Slot} (hl : lv_has ls 4 [(0, .int x0), (1, .int x1)]) (h : b_X6_farOf_0 M x0 x1 = some rr) : W p l e ({ frames := 0, cells := 0, slots := 0, locals := 0 } : Room) s m args below meth c H locs 0 0 (MQ below (va_Qi (fun (x : Int32) (_ : Unit) => x = rr) (fun _ t => PA D cy ad 100 21 A M t) A) args s 0 0 A) (F0 m 0 ls []) := by
  obtain ⟨hx, hb, hml, hown, hts, hr, hlk, hK, hN, hA, hX⟩ := id C
  unfold b_X6_farOf_0 at h
  refine lv_iload_n hx hb dX6_farOf_0 rfl (lv_at hl 0 rfl) ?_
  refine lv_bipush (v := 8) hx hb dX6_farOf_1 (by decide) ?_
  refine lv_irem hx hb dX6_farOf_3 (by decide) ?_
  refine lv_iload_n hx hb dX6_farOf_4 rfl (lv_at hl 1 rfl) ?_
  refine lv_bipush (v := 8) hx hb dX6_farOf_5 (by decide) ?_
  refine lv_irem hx hb dX6_farOf_7 (by decide) ?_
  refine lv_isub hx hb dX6_farOf_8 ?_
  refine lv_istore_n (lv' := [(2, .int ((x0 - x0 / (8 : Int32) * (8 : Int32)) - (x1 - x1 / (8 : Int32) * (8 : Int32)))), (0, .int x0), (1, .int x1)]) hx hb dX6_farOf_9 rfl hl (by decide) rfl (fun ls hl => ?_)
  exact w_X6_farOf_10 C hP hD hS (lv_sub hl [1, 2, 0] rfl) h
def f_X6_farOf (x0 : Int32) (x1 : Int32) (M : Mem) : Option (Int32) := b_X6_farOf_0 M x0 x1
theorem c_X6_farOf {l : Launch} {D : va_G} {cy : Nat → ClassId} {ad : Nat → Nat} {zz : (Nat → Nat) × (Nat → Nat)} {x0 : Int32} {x1 : Int32} {M : Mem} {rr : Int32} (h : f_X6_farOf x0 x1 M = some rr) : CTi l D cy ad zz 100 21 yX6_farOf (.code yX6_farOf cX6_farOf 4 (some .int) :: tb) ({ frames := 0, cells := 0, slots := 0, locals := 0 } : Room) [.int x0, .int x1] M rr M := by
  intro sz
  refine CX.of (by decide +kernel) (fun p e s m args below meth c H ls C hP hD hS hl => ?_) (Nat.le_of_ble_eq_true rfl)
  exact w_X6_farOf_0 C hP hD hS hl h
theorem es_X6_farOf : yX6_farOf.cls ≠ "java/lang/invoke/MethodHandle" ∧ yX6_farOf.cls ≠ "java/lang/invoke/VarHandle" ∧ (parseMethodDescriptor yX6_farOf.desc).map (fun d => d.parameters.length) = some 2 := by decide +kernel
def b_X6_farBehind_0 (N : Nat) (x1 : Int32) (x2 : Int32) (x3 : Int32) (M : Mem) : Option (Int32 × Mem) := (f_X6_keeps N M).bind fun M1 => (f_X6_goes N x3 M1).bind fun M6 => gd (inb ((5 : Int32) * x1) (len 103)) ((f_X6_farOf (AI M6 103 ((5 : Int32) * x1).toNatClampNeg) x2 M6).bind fun r18 => (f_X6_lays N M6).bind fun M24 => some (r18, M24))
set_option maxHeartbeats 4000000 in
set_option maxRecDepth 100000 in
theorem w_X6_farBehind_0 (C : CX p s m args meth c cX6_farBehind 5 (some .int) RX6 D cy ad zz 100 21 A) {N : Nat} {M : Mem} {x1 : Int32} {x2 : Int32} {x3 : Int32} {rr : Int32} {M' : Mem} {H : Heap} {locs : List Loc} (hP : va_P D vwCl (pool cy ad 100 21 M) H) (hD : va_D A (pool cy ad 100 21 M)) (hS : va_S A s.heap H locs) {ls : Array Slot} (hl : lv_has ls 5 [(0, .ref (ad 100)), (1, .int x1), (2, .int x2), (3, .int x3)]) (h : b_X6_farBehind_0 N x1 x2 x3 M = some (rr, M')) : W p l e ({ frames := 6, cells := 0, slots := 0, locals := 140 } : Room) s m args below meth c H locs 0 0 (MQ below (va_Qi (fun (x : Int32) (_ : Unit) => x = rr) (fun _ t => PA D cy ad 100 21 A M' t) A) args s 0 0 A) (F0 m 0 ls []) := by
  obtain ⟨hx, hb, hml, hown, hts, hr, hlk, hK, hN, hA, hX⟩ := id C
  unfold b_X6_farBehind_0 at h
  refine lv_aload_n hx hb dX6_farBehind_0 rfl (lv_at hl 0 rfl) ?_
  obtain ⟨M1, g1, h⟩ := bd_of h
  refine call_vV (As := []) (rest := []) C hP hD hS (c_X6_keeps g1) (iL (by decide)) ⟨6, _, _, ent_6 (by decide), rfl, rfl⟩ (gV wd_1104 wd_1106 wd_47 wd_75 wd_1107) ev_X6_keeps ⟨rfl, rfl⟩ ⟨Nat.le_of_ble_eq_true rfl, Nat.le_of_ble_eq_true rfl⟩ hl.1 rfl (Nat.le_of_ble_eq_true rfl) dX6_farBehind_1 (fun H locs hP hD hS => ?_)
  refine lv_aload_n hx hb dX6_farBehind_4 rfl (lv_at hl 0 rfl) ?_
  refine lv_iload_n hx hb dX6_farBehind_5 rfl (lv_at hl 3 rfl) ?_
  obtain ⟨M6, g6, h⟩ := bd_of h
  refine call_vV (As := [.int x3]) (rest := []) C hP hD hS (c_X6_goes g6) (iL (by decide)) ⟨6, _, _, ent_6 (by decide), rfl, rfl⟩ (gV wd_1108 wd_1110 wd_48 wd_75 wd_1111) ev_X6_goes ⟨rfl, rfl⟩ ⟨Nat.le_of_ble_eq_true rfl, Nat.le_of_ble_eq_true rfl⟩ hl.1 rfl (Nat.le_of_ble_eq_true rfl) dX6_farBehind_6 (fun H locs hP hD hS => ?_)
  refine lv_aload_n hx hb dX6_farBehind_9 rfl (lv_at hl 0 rfl) ?_
  refine gf_6_3 C hP (iL (by decide)) (by decide) wd_885 dX6_farBehind_10 ?_
  refine lv_iconst (v := 5) hx hb dX6_farBehind_13 (by decide) ?_
  refine lv_iload_n hx hb dX6_farBehind_14 rfl (lv_at hl 1 rfl) ?_
  refine lv_imul hx hb dX6_farBehind_15 ?_
  obtain ⟨gi1, h⟩ := gd_of h
  refine ia_ld C hP (iL (by decide)) (by decide) gi1 dX6_farBehind_16 ?_
  refine lv_iload_n hx hb dX6_farBehind_17 rfl (lv_at hl 2 rfl) ?_
  obtain ⟨r18, g18, h⟩ := bd_of h
  refine call_iS (As := [.int (AI M6 103 ((5 : Int32) * x1).toNatClampNeg), .int x2]) (rest := []) C hP hD hS (c_X6_farOf g18) (gS wd_1169 wd_1170 wd_75 wd_1171) es_X6_farOf ⟨rfl, rfl⟩ ⟨Nat.le_of_ble_eq_true rfl, Nat.le_of_ble_eq_true rfl⟩ hl.1 rfl (Nat.le_of_ble_eq_true rfl) dX6_farBehind_18 (fun H locs hP hD hS => ?_)
  refine lv_istore (lv' := [(4, .int r18), (0, .ref (ad 100)), (1, .int x1), (2, .int x2), (3, .int x3)]) hx hb dX6_farBehind_21 hl (by decide) rfl (fun ls hl => ?_)
  refine lv_aload_n hx hb dX6_farBehind_23 rfl (lv_at hl 1 rfl) ?_
  obtain ⟨M24, g24, h⟩ := bd_of h
  refine call_vV (As := []) (rest := []) C hP hD hS (c_X6_lays g24) (iL (by decide)) ⟨6, _, _, ent_6 (by decide), rfl, rfl⟩ (gV wd_1124 wd_1126 wd_52 wd_75 wd_1127) ev_X6_lays ⟨rfl, rfl⟩ ⟨Nat.le_of_ble_eq_true rfl, Nat.le_of_ble_eq_true rfl⟩ hl.1 rfl (Nat.le_of_ble_eq_true rfl) dX6_farBehind_24 (fun H locs hP hD hS => ?_)
  refine lv_iload hx hb dX6_farBehind_27 (lv_at hl 0 rfl) ?_
  exact rt_i (r := r18) C hP hD hS dX6_farBehind_29 (rw_end h)
def f_X6_farBehind (N : Nat) (x1 : Int32) (x2 : Int32) (x3 : Int32) (M : Mem) : Option (Int32 × Mem) := b_X6_farBehind_0 N x1 x2 x3 M
theorem c_X6_farBehind {l : Launch} {D : va_G} {cy : Nat → ClassId} {ad : Nat → Nat} {zz : (Nat → Nat) × (Nat → Nat)} {N : Nat} {x1 : Int32} {x2 : Int32} {x3 : Int32} {M : Mem} {rr : Int32} {M' : Mem} (h : f_X6_farBehind N x1 x2 x3 M = some (rr, M')) : CTi l D cy ad zz 100 21 yX6_farBehind (.code yX6_farBehind cX6_farBehind 5 (some .int) :: tb) ({ frames := 6, cells := 0, slots := 0, locals := 140 } : Room) [.ref (ad 100), .int x1, .int x2, .int x3] M rr M' := by
  intro sz
  refine CX.of (by decide +kernel) (fun p e s m args below meth c H ls C hP hD hS hl => ?_) (Nat.le_of_ble_eq_true rfl)
  exact w_X6_farBehind_0 C hP hD hS hl h
theorem ev_X6_farBehind : yX6_farBehind.cls = RX6 ∧ yX6_farBehind.cls ≠ "java/lang/invoke/MethodHandle" ∧ yX6_farBehind.cls ≠ "java/lang/invoke/VarHandle" ∧ (parseMethodDescriptor yX6_farBehind.desc).map (fun d => d.parameters.length) = some 3 := by decide +kernel
def b_X6_anew_171 (N : Nat) (x1 : Int32) (x2 : Int32) (x3 : Int32) (x4 : Int32) (k56 : Int32 → Int32 → Int32 → Mem → Option (Int32 × Mem)) (x5 : Int32) (x6 : Int32) (x7 : Int32) (M : Mem) : Option (Int32 × Mem) := k56 x5 x6 (x7 + (1 : Int32)) M
set_option maxHeartbeats 4000000 in
set_option maxRecDepth 100000 in
theorem w_X6_anew_171 (C : CX p s m args meth c cX6_anew 11 (some .int) RX6 D cy ad zz 100 21 A) {N : Nat} {M : Mem} {x1 : Int32} {x2 : Int32} {x3 : Int32} {x4 : Int32} {k56 : Int32 → Int32 → Int32 → Mem → Option (Int32 × Mem)} {rr : Int32} {M' : Mem} (hk56 : ∀ (x5 : Int32), ∀ (x6 : Int32), ∀ (x7 : Int32), ∀ (M : Mem), ∀ (H : Heap) (locs : List Loc), va_P D vwCl (pool cy ad 100 21 M) H → va_D A (pool cy ad 100 21 M) → va_S A s.heap H locs → ∀ (ls : Array Slot), lv_has ls 11 [(0, .ref (ad 100)), (1, .int x1), (2, .int x2), (3, .int x3), (4, .int x4), (5, .int x5), (6, .int x6), (7, .int x7)] → k56 x5 x6 x7 M = some (rr, M') → W p l e ({ frames := 7, cells := 0, slots := 0, locals := 164 } : Room) s m args below meth c H locs 0 0 (MQ below (va_Qi (fun (x : Int32) (_ : Unit) => x = rr) (fun _ t => PA D cy ad 100 21 A M' t) A) args s 0 0 A) (F0 m 56 ls [])) {x5 : Int32} {x6 : Int32} {x7 : Int32} {H : Heap} {locs : List Loc} (hP : va_P D vwCl (pool cy ad 100 21 M) H) (hD : va_D A (pool cy ad 100 21 M)) (hS : va_S A s.heap H locs) {ls : Array Slot} (hl : lv_has ls 11 [(0, .ref (ad 100)), (1, .int x1), (2, .int x2), (3, .int x3), (4, .int x4), (5, .int x5), (6, .int x6), (7, .int x7)]) (h : b_X6_anew_171 N x1 x2 x3 x4 k56 x5 x6 x7 M = some (rr, M')) : W p l e ({ frames := 7, cells := 0, slots := 0, locals := 164 } : Room) s m args below meth c H locs 0 0 (MQ below (va_Qi (fun (x : Int32) (_ : Unit) => x = rr) (fun _ t => PA D cy ad 100 21 A M' t) A) args s 0 0 A) (F0 m 171 ls []) := by
  obtain ⟨hx, hb, hml, hown, hts, hr, hlk, hK, hN, hA, hX⟩ := id C
  unfold b_X6_anew_171 at h
  refine lv_iinc (v := (x7 + (1 : Int32))) (lv' := [(7, .int (x7 + (1 : Int32))), (0, .ref (ad 100)), (1, .int x1), (2, .int x2), (3, .int x3), (4, .int x4), (5, .int x5), (6, .int x6)]) hx hb dX6_anew_171 hl (k := 7) rfl rfl (by decide) rfl (fun ls hl => ?_)
  refine lv_goto (tgt := 56) hx hb dX6_anew_174 (by decide) ?_
  exact hk56 _ _ _ _ _ _ hP hD hS _ (lv_sub hl [1, 2, 3, 4, 5, 6, 7, 0] rfl) h
def b_X6_anew_149 (N : Nat) (x1 : Int32) (x2 : Int32) (x3 : Int32) (x4 : Int32) (k56 : Int32 → Int32 → Int32 → Mem → Option (Int32 × Mem)) (k84 : Int32 → Int32 → Int32 → Int32 → Int32 → Mem → Option (Int32 × Mem)) (x5 : Int32) (x7 : Int32) (x8 : Int32) (x9 : Int32) (t0 : Int32) (M : Mem) : Option (Int32 × Mem) := k84 x5 t0 x7 x8 (x9 + (1 : Int32)) M
set_option maxHeartbeats 4000000 in
set_option maxRecDepth 100000 in
theorem w_X6_anew_149 (C : CX p s m args meth c cX6_anew 11 (some .int) RX6 D cy ad zz 100 21 A) {N : Nat} {M : Mem} {x1 : Int32} {x2 : Int32} {x3 : Int32} {x4 : Int32} {k56 : Int32 → Int32 → Int32 → Mem → Option (Int32 × Mem)} {k84 : Int32 → Int32 → Int32 → Int32 → Int32 → Mem → Option (Int32 × Mem)} {rr : Int32} {M' : Mem} (hk56 : ∀ (x5 : Int32), ∀ (x6 : Int32), ∀ (x7 : Int32), ∀ (M : Mem), ∀ (H : Heap) (locs : List Loc), va_P D vwCl (pool cy ad 100 21 M) H → va_D A (pool cy ad 100 21 M) → va_S A s.heap H locs → ∀ (ls : Array Slot), lv_has ls 11 [(0, .ref (ad 100)), (1, .int x1), (2, .int x2), (3, .int x3), (4, .int x4), (5, .int x5), (6, .int x6), (7, .int x7)] → k56 x5 x6 x7 M = some (rr, M') → W p l e ({ frames := 7, cells := 0, slots := 0, locals := 164 } : Room) s m args below meth c H locs 0 0 (MQ below (va_Qi (fun (x : Int32) (_ : Unit) => x = rr) (fun _ t => PA D cy ad 100 21 A M' t) A) args s 0 0 A) (F0 m 56 ls [])) (hk84 : ∀ (x5 : Int32), ∀ (x6 : Int32), ∀ (x7 : Int32), ∀ (x8 : Int32), ∀ (x9 : Int32), ∀ (M : Mem), ∀ (H : Heap) (locs : List Loc), va_P D vwCl (pool cy ad 100 21 M) H → va_D A (pool cy ad 100 21 M) → va_S A s.heap H locs → ∀ (ls : Array Slot), lv_has ls 11 [(0, .ref (ad 100)), (1, .int x1), (2, .int x2), (3, .int x3), (4, .int x4), (5, .int x5), (6, .int x6), (7, .int x7), (8, .int x8), (9, .int x9)] → k84 x5 x6 x7 x8 x9 M = some (rr, M') → W p l e ({ frames := 7, cells := 0, slots := 0, locals := 164 } : Room) s m args below meth c H locs 0 0 (MQ below (va_Qi (fun (x : Int32) (_ : Unit) => x = rr) (fun _ t => PA D cy ad 100 21 A M' t) A) args s 0 0 A) (F0 m 84 ls [])) {x5 : Int32} {x7 : Int32} {x8 : Int32} {x9 : Int32} {t0 : Int32} {H : Heap} {locs : List Loc} (hP : va_P D vwCl (pool cy ad 100 21 M) H) (hD : va_D A (pool cy ad 100 21 M)) (hS : va_S A s.heap H locs) {ls : Array Slot} (hl : lv_has ls 11 [(0, .ref (ad 100)), (1, .int x1), (2, .int x2), (3, .int x3), (4, .int x4), (5, .int x5), (7, .int x7), (8, .int x8), (9, .int x9)]) (h : b_X6_anew_149 N x1 x2 x3 x4 k56 k84 x5 x7 x8 x9 t0 M = some (rr, M')) : W p l e ({ frames := 7, cells := 0, slots := 0, locals := 164 } : Room) s m args below meth c H locs 0 0 (MQ below (va_Qi (fun (x : Int32) (_ : Unit) => x = rr) (fun _ t => PA D cy ad 100 21 A M' t) A) args s 0 0 A) (F0 m 149 ls [.int t0]) := by
  obtain ⟨hx, hb, hml, hown, hts, hr, hlk, hK, hN, hA, hX⟩ := id C
  unfold b_X6_anew_149 at h
  refine lv_istore (lv' := [(6, .int t0), (0, .ref (ad 100)), (1, .int x1), (2, .int x2), (3, .int x3), (4, .int x4), (5, .int x5), (7, .int x7), (8, .int x8), (9, .int x9)]) hx hb dX6_anew_149 hl (by decide) rfl (fun ls hl => ?_)
  refine lv_iinc (v := (x9 + (1 : Int32))) (lv' := [(9, .int (x9 + (1 : Int32))), (6, .int t0), (0, .ref (ad 100)), (1, .int x1), (2, .int x2), (3, .int x3), (4, .int x4), (5, .int x5), (7, .int x7), (8, .int x8)]) hx hb dX6_anew_151 hl (k := 9) rfl rfl (by decide) rfl (fun ls hl => ?_)
  refine lv_goto (tgt := 84) hx hb dX6_anew_154 (by decide) ?_
  exact hk84 _ _ _ _ _ _ _ _ hP hD hS _ (lv_sub hl [2, 3, 4, 5, 6, 7, 1, 8, 9, 0] rfl) h
def b_X6_anew_133 (N : Nat) (x1 : Int32) (x2 : Int32) (x3 : Int32) (x4 : Int32) (k56 : Int32 → Int32 → Int32 → Mem → Option (Int32 × Mem)) (k84 : Int32 → Int32 → Int32 → Int32 → Int32 → Mem → Option (Int32 × Mem)) (x6 : Int32) (x7 : Int32) (x8 : Int32) (x9 : Int32) (x10 : Int32) (t0 : Int32) (M : Mem) : Option (Int32 × Mem) := (if x6 ≤ x10 then b_X6_anew_149 N x1 x2 x3 x4 k56 k84 t0 x7 x8 x9 x6 M else b_X6_anew_149 N x1 x2 x3 x4 k56 k84 t0 x7 x8 x9 x10 M)
set_option maxHeartbeats 4000000 in
set_option maxRecDepth 100000 in
theorem w_X6_anew_133 (C : CX p s m args meth c cX6_anew 11 (some .int) RX6 D cy ad zz 100 21 A) {N : Nat} {M : Mem} {x1 : Int32} {x2 : Int32} {x3 : Int32} {x4 : Int32} {k56 : Int32 → Int32 → Int32 → Mem → Option (Int32 × Mem)} {k84 : Int32 → Int32 → Int32 → Int32 → Int32 → Mem → Option (Int32 × Mem)} {rr : Int32} {M' : Mem} (hk56 : ∀ (x5 : Int32), ∀ (x6 : Int32), ∀ (x7 : Int32), ∀ (M : Mem), ∀ (H : Heap) (locs : List Loc), va_P D vwCl (pool cy ad 100 21 M) H → va_D A (pool cy ad 100 21 M) → va_S A s.heap H locs → ∀ (ls : Array Slot), lv_has ls 11 [(0, .ref (ad 100)), (1, .int x1), (2, .int x2), (3, .int x3), (4, .int x4), (5, .int x5), (6, .int x6), (7, .int x7)] → k56 x5 x6 x7 M = some (rr, M') → W p l e ({ frames := 7, cells := 0, slots := 0, locals := 164 } : Room) s m args below meth c H locs 0 0 (MQ below (va_Qi (fun (x : Int32) (_ : Unit) => x = rr) (fun _ t => PA D cy ad 100 21 A M' t) A) args s 0 0 A) (F0 m 56 ls [])) (hk84 : ∀ (x5 : Int32), ∀ (x6 : Int32), ∀ (x7 : Int32), ∀ (x8 : Int32), ∀ (x9 : Int32), ∀ (M : Mem), ∀ (H : Heap) (locs : List Loc), va_P D vwCl (pool cy ad 100 21 M) H → va_D A (pool cy ad 100 21 M) → va_S A s.heap H locs → ∀ (ls : Array Slot), lv_has ls 11 [(0, .ref (ad 100)), (1, .int x1), (2, .int x2), (3, .int x3), (4, .int x4), (5, .int x5), (6, .int x6), (7, .int x7), (8, .int x8), (9, .int x9)] → k84 x5 x6 x7 x8 x9 M = some (rr, M') → W p l e ({ frames := 7, cells := 0, slots := 0, locals := 164 } : Room) s m args below meth c H locs 0 0 (MQ below (va_Qi (fun (x : Int32) (_ : Unit) => x = rr) (fun _ t => PA D cy ad 100 21 A M' t) A) args s 0 0 A) (F0 m 84 ls [])) {x6 : Int32} {x7 : Int32} {x8 : Int32} {x9 : Int32} {x10 : Int32} {t0 : Int32} {H : Heap} {locs : List Loc} (hP : va_P D vwCl (pool cy ad 100 21 M) H) (hD : va_D A (pool cy ad 100 21 M)) (hS : va_S A s.heap H locs) {ls : Array Slot} (hl : lv_has ls 11 [(0, .ref (ad 100)), (1, .int x1), (2, .int x2), (3, .int x3), (4, .int x4), (6, .int x6), (7, .int x7), (8, .int x8), (9, .int x9), (10, .int x10)]) (h : b_X6_anew_133 N x1 x2 x3 x4 k56 k84 x6 x7 x8 x9 x10 t0 M = some (rr, M')) : W p l e ({ frames := 7, cells := 0, slots := 0, locals := 164 } : Room) s m args below meth c H locs 0 0 (MQ below (va_Qi (fun (x : Int32) (_ : Unit) => x = rr) (fun _ t => PA D cy ad 100 21 A M' t) A) args s 0 0 A) (F0 m 133 ls [.int t0]) := by
  obtain ⟨hx, hb, hml, hown, hts, hr, hlk, hK, hN, hA, hX⟩ := id C
  unfold b_X6_anew_133 at h
  refine lv_istore (lv' := [(5, .int t0), (0, .ref (ad 100)), (1, .int x1), (2, .int x2), (3, .int x3), (4, .int x4), (6, .int x6), (7, .int x7), (8, .int x8), (9, .int x9), (10, .int x10)]) hx hb dX6_anew_133 hl (by decide) rfl (fun ls hl => ?_)
  refine lv_iload hx hb dX6_anew_135 (lv_at hl 10 rfl) ?_
  refine lv_iload hx hb dX6_anew_137 (lv_at hl 6 rfl) ?_
  refine lv_icmp_ge (tgt := 147) hx hb dX6_anew_139 (by decide) (fun c139 => ?_) (fun c139 => ?_)
  · replace h := it_t c139 h
    refine lv_iload hx hb dX6_anew_147 (lv_at hl 6 rfl) ?_
    exact w_X6_anew_149 C hk56 hk84 hP hD hS (lv_sub hl [1, 2, 3, 4, 5, 0, 7, 8, 9] rfl) h
  · replace h := it_f c139 h
    refine lv_iload hx hb dX6_anew_142 (lv_at hl 10 rfl) ?_
    refine lv_goto (tgt := 149) hx hb dX6_anew_144 (by decide) ?_
    exact w_X6_anew_149 C hk56 hk84 hP hD hS (lv_sub hl [1, 2, 3, 4, 5, 0, 7, 8, 9] rfl) h
def b_X6_anew_104 (N : Nat) (x1 : Int32) (x2 : Int32) (x3 : Int32) (x4 : Int32) (k56 : Int32 → Int32 → Int32 → Mem → Option (Int32 × Mem)) (k84 : Int32 → Int32 → Int32 → Int32 → Int32 → Mem → Option (Int32 × Mem)) (x5 : Int32) (x6 : Int32) (x7 : Int32) (x8 : Int32) (x9 : Int32) (M : Mem) : Option (Int32 × Mem) := bd2 (f_X6_farBehind N x1 x2 x3 M) fun r108 M108 => (if x6 ≤ r108 then b_X6_anew_133 N x1 x2 x3 x4 k56 k84 x6 x7 x8 x9 r108 x5 M108 else b_X6_anew_133 N x1 x2 x3 x4 k56 k84 x6 x7 x8 x9 r108 (((10 : Int32) * x7) + x9) M108)
set_option maxHeartbeats 4000000 in
set_option maxRecDepth 100000 in
theorem w_X6_anew_104 (C : CX p s m args meth c cX6_anew 11 (some .int) RX6 D cy ad zz 100 21 A) {N : Nat} {M : Mem} {x1 : Int32} {x2 : Int32} {x3 : Int32} {x4 : Int32} {k56 : Int32 → Int32 → Int32 → Mem → Option (Int32 × Mem)} {k84 : Int32 → Int32 → Int32 → Int32 → Int32 → Mem → Option (Int32 × Mem)} {rr : Int32} {M' : Mem} (hk56 : ∀ (x5 : Int32), ∀ (x6 : Int32), ∀ (x7 : Int32), ∀ (M : Mem), ∀ (H : Heap) (locs : List Loc), va_P D vwCl (pool cy ad 100 21 M) H → va_D A (pool cy ad 100 21 M) → va_S A s.heap H locs → ∀ (ls : Array Slot), lv_has ls 11 [(0, .ref (ad 100)), (1, .int x1), (2, .int x2), (3, .int x3), (4, .int x4), (5, .int x5), (6, .int x6), (7, .int x7)] → k56 x5 x6 x7 M = some (rr, M') → W p l e ({ frames := 7, cells := 0, slots := 0, locals := 164 } : Room) s m args below meth c H locs 0 0 (MQ below (va_Qi (fun (x : Int32) (_ : Unit) => x = rr) (fun _ t => PA D cy ad 100 21 A M' t) A) args s 0 0 A) (F0 m 56 ls [])) (hk84 : ∀ (x5 : Int32), ∀ (x6 : Int32), ∀ (x7 : Int32), ∀ (x8 : Int32), ∀ (x9 : Int32), ∀ (M : Mem), ∀ (H : Heap) (locs : List Loc), va_P D vwCl (pool cy ad 100 21 M) H → va_D A (pool cy ad 100 21 M) → va_S A s.heap H locs → ∀ (ls : Array Slot), lv_has ls 11 [(0, .ref (ad 100)), (1, .int x1), (2, .int x2), (3, .int x3), (4, .int x4), (5, .int x5), (6, .int x6), (7, .int x7), (8, .int x8), (9, .int x9)] → k84 x5 x6 x7 x8 x9 M = some (rr, M') → W p l e ({ frames := 7, cells := 0, slots := 0, locals := 164 } : Room) s m args below meth c H locs 0 0 (MQ below (va_Qi (fun (x : Int32) (_ : Unit) => x = rr) (fun _ t => PA D cy ad 100 21 A M' t) A) args s 0 0 A) (F0 m 84 ls [])) {x5 : Int32} {x6 : Int32} {x7 : Int32} {x8 : Int32} {x9 : Int32} {H : Heap} {locs : List Loc} (hP : va_P D vwCl (pool cy ad 100 21 M) H) (hD : va_D A (pool cy ad 100 21 M)) (hS : va_S A s.heap H locs) {ls : Array Slot} (hl : lv_has ls 11 [(0, .ref (ad 100)), (1, .int x1), (2, .int x2), (3, .int x3), (4, .int x4), (5, .int x5), (6, .int x6), (7, .int x7), (8, .int x8), (9, .int x9)]) (h : b_X6_anew_104 N x1 x2 x3 x4 k56 k84 x5 x6 x7 x8 x9 M = some (rr, M')) : W p l e ({ frames := 7, cells := 0, slots := 0, locals := 164 } : Room) s m args below meth c H locs 0 0 (MQ below (va_Qi (fun (x : Int32) (_ : Unit) => x = rr) (fun _ t => PA D cy ad 100 21 A M' t) A) args s 0 0 A) (F0 m 104 ls []) := by
  obtain ⟨hx, hb, hml, hown, hts, hr, hlk, hK, hN, hA, hX⟩ := id C
  unfold b_X6_anew_104 at h
  refine lv_aload_n hx hb dX6_anew_104 rfl (lv_at hl 0 rfl) ?_
  refine lv_iload_n hx hb dX6_anew_105 rfl (lv_at hl 1 rfl) ?_
  refine lv_iload_n hx hb dX6_anew_106 rfl (lv_at hl 2 rfl) ?_
  refine lv_iload_n hx hb dX6_anew_107 rfl (lv_at hl 3 rfl) ?_
  obtain ⟨r108, M108, g108, h⟩ := bd2_of h
  refine call_iV (As := [.int x1, .int x2, .int x3]) (rest := []) C hP hD hS (c_X6_farBehind g108) (iL (by decide)) ⟨6, _, _, ent_6 (by decide), rfl, rfl⟩ (gV wd_1165 wd_1167 wd_57 wd_75 wd_1168) ev_X6_farBehind ⟨rfl, rfl⟩ ⟨Nat.le_of_ble_eq_true rfl, Nat.le_of_ble_eq_true rfl⟩ hl.1 rfl (Nat.le_of_ble_eq_true rfl) dX6_anew_108 (fun H locs hP hD hS => ?_)
  refine lv_istore (lv' := [(10, .int r108), (0, .ref (ad 100)), (1, .int x1), (2, .int x2), (3, .int x3), (4, .int x4), (5, .int x5), (6, .int x6), (7, .int x7), (8, .int x8), (9, .int x9)]) hx hb dX6_anew_111 hl (by decide) rfl (fun ls hl => ?_)
  refine lv_iload hx hb dX6_anew_113 (lv_at hl 0 rfl) ?_
  refine lv_iload hx hb dX6_anew_115 (lv_at hl 7 rfl) ?_
  refine lv_icmp_ge (tgt := 131) hx hb dX6_anew_117 (by decide) (fun c117 => ?_) (fun c117 => ?_)
  · replace h := it_t c117 h
    refine lv_iload hx hb dX6_anew_131 (lv_at hl 6 rfl) ?_
    exact w_X6_anew_133 C hk56 hk84 hP hD hS (lv_sub hl [1, 2, 3, 4, 5, 7, 8, 9, 10, 0] rfl) h
  · replace h := it_f c117 h
    refine lv_bipush (v := 10) hx hb dX6_anew_120 (by decide) ?_
    refine lv_iload hx hb dX6_anew_122 (lv_at hl 8 rfl) ?_
    refine lv_imul hx hb dX6_anew_124 ?_
    refine lv_iload hx hb dX6_anew_125 (lv_at hl 10 rfl) ?_
    refine lv_iadd hx hb dX6_anew_127 ?_
    refine lv_goto (tgt := 133) hx hb dX6_anew_128 (by decide) ?_
    exact w_X6_anew_133 C hk56 hk84 hP hD hS (lv_sub hl [1, 2, 3, 4, 5, 7, 8, 9, 10, 0] rfl) h
def b_X6_anew_84 (N : Nat) (x1 : Int32) (x2 : Int32) (x3 : Int32) (x4 : Int32) (k56 : Int32 → Int32 → Int32 → Mem → Option (Int32 × Mem)) : Nat → Int32 → Int32 → Int32 → Int32 → Int32 → Mem → Option (Int32 × Mem)
  | 0, _, _, _, _, _, _ => none
  | fu + 1, x5, x6, x7, x8, x9, M => (if (5 : Int32) ≤ x9 then gd (inb (((16 : Int32) * x1) + x7) (len 104)) (b_X6_anew_171 N x1 x2 x3 x4 k56 x5 x6 x7 (sAI M 104 (((16 : Int32) * x1) + x7).toNatClampNeg x8)) else gd (inb (((16 : Int32) * x1) + x7) (len 104)) (b_X6_anew_104 N x1 x2 x3 x4 k56 (b_X6_anew_84 N x1 x2 x3 x4 k56 fu) x5 x6 x7 x8 x9 (sAI M 104 (((16 : Int32) * x1) + x7).toNatClampNeg x9)))
set_option maxHeartbeats 4000000 in
set_option maxRecDepth 100000 in
theorem w_X6_anew_84 (C : CX p s m args meth c cX6_anew 11 (some .int) RX6 D cy ad zz 100 21 A) {N : Nat} {x1 : Int32} {x2 : Int32} {x3 : Int32} {x4 : Int32} {k56 : Int32 → Int32 → Int32 → Mem → Option (Int32 × Mem)} {rr : Int32} {M' : Mem} (hk56 : ∀ (x5 : Int32), ∀ (x6 : Int32), ∀ (x7 : Int32), ∀ (M : Mem), ∀ (H : Heap) (locs : List Loc), va_P D vwCl (pool cy ad 100 21 M) H → va_D A (pool cy ad 100 21 M) → va_S A s.heap H locs → ∀ (ls : Array Slot), lv_has ls 11 [(0, .ref (ad 100)), (1, .int x1), (2, .int x2), (3, .int x3), (4, .int x4), (5, .int x5), (6, .int x6), (7, .int x7)] → k56 x5 x6 x7 M = some (rr, M') → W p l e ({ frames := 7, cells := 0, slots := 0, locals := 164 } : Room) s m args below meth c H locs 0 0 (MQ below (va_Qi (fun (x : Int32) (_ : Unit) => x = rr) (fun _ t => PA D cy ad 100 21 A M' t) A) args s 0 0 A) (F0 m 56 ls []))  : ∀ (fu : Nat), ∀ (x5 : Int32), ∀ (x6 : Int32), ∀ (x7 : Int32), ∀ (x8 : Int32), ∀ (x9 : Int32), ∀ (M : Mem), ∀ (H : Heap) (locs : List Loc), va_P D vwCl (pool cy ad 100 21 M) H → va_D A (pool cy ad 100 21 M) → va_S A s.heap H locs → ∀ (ls : Array Slot), lv_has ls 11 [(0, .ref (ad 100)), (1, .int x1), (2, .int x2), (3, .int x3), (4, .int x4), (5, .int x5), (6, .int x6), (7, .int x7), (8, .int x8), (9, .int x9)] → b_X6_anew_84 N x1 x2 x3 x4 k56 fu x5 x6 x7 x8 x9 M = some (rr, M') → W p l e ({ frames := 7, cells := 0, slots := 0, locals := 164 } : Room) s m args below meth c H locs 0 0 (MQ below (va_Qi (fun (x : Int32) (_ : Unit) => x = rr) (fun _ t => PA D cy ad 100 21 A M' t) A) args s 0 0 A) (F0 m 84 ls []) := by
  obtain ⟨hx, hb, hml, hown, hts, hr, hlk, hK, hN, hA, hX⟩ := id C
  intro fu
  induction fu with
  | zero =>
    intro x5 x6 x7 x8 x9 M H locs hP hD hS ls hl h
    exact no_some (show none = some _ from h)
  | succ fu ih =>
    intro x5 x6 x7 x8 x9 M H locs hP hD hS ls hl h
    rw [b_X6_anew_84] at h
    refine lv_iload hx hb dX6_anew_84 (lv_at hl 9 rfl) ?_
    refine lv_iconst (v := 5) hx hb dX6_anew_86 (by decide) ?_
    refine lv_icmp_ge (tgt := 157) hx hb dX6_anew_87 (by decide) (fun c87 => ?_) (fun c87 => ?_)
    · replace h := it_t c87 h
      refine lv_aload_n hx hb dX6_anew_157 rfl (lv_at hl 0 rfl) ?_
      refine gf_6_4 C hP (iL (by decide)) (by decide) wd_886 dX6_anew_158 ?_
      refine lv_bipush (v := 16) hx hb dX6_anew_161 (by decide) ?_
      refine lv_iload_n hx hb dX6_anew_163 rfl (lv_at hl 1 rfl) ?_
      refine lv_imul hx hb dX6_anew_164 ?_
      refine lv_iload hx hb dX6_anew_165 (lv_at hl 7 rfl) ?_
      refine lv_iadd hx hb dX6_anew_167 ?_
      refine lv_iload hx hb dX6_anew_168 (lv_at hl 8 rfl) ?_
      obtain ⟨gi1, h⟩ := gd_of h
      refine ia_st C hP hD hS (iL (by decide)) (by decide) gi1 dX6_anew_170 (fun H locs hP hD hS => ?_)
      exact w_X6_anew_171 C hk56 hP hD hS (lv_sub hl [0, 1, 2, 3, 4, 5, 6, 7] rfl) h
    · replace h := it_f c87 h
      refine lv_aload_n hx hb dX6_anew_90 rfl (lv_at hl 0 rfl) ?_
      refine gf_6_4 C hP (iL (by decide)) (by decide) wd_886 dX6_anew_91 ?_
      refine lv_bipush (v := 16) hx hb dX6_anew_94 (by decide) ?_
      refine lv_iload_n hx hb dX6_anew_96 rfl (lv_at hl 1 rfl) ?_
      refine lv_imul hx hb dX6_anew_97 ?_
      refine lv_iload hx hb dX6_anew_98 (lv_at hl 7 rfl) ?_
      refine lv_iadd hx hb dX6_anew_100 ?_
      refine lv_iload hx hb dX6_anew_101 (lv_at hl 9 rfl) ?_
      obtain ⟨gi2, h⟩ := gd_of h
      refine ia_st C hP hD hS (iL (by decide)) (by decide) gi2 dX6_anew_103 (fun H locs hP hD hS => ?_)
      exact w_X6_anew_104 C hk56 ih hP hD hS hl h
def b_X6_anew_81 (N : Nat) (x1 : Int32) (x2 : Int32) (x3 : Int32) (x4 : Int32) (k56 : Int32 → Int32 → Int32 → Mem → Option (Int32 × Mem)) (x5 : Int32) (x6 : Int32) (x7 : Int32) (x8 : Int32) (M : Mem) : Option (Int32 × Mem) := b_X6_anew_84 N x1 x2 x3 x4 k56 N x5 x6 x7 x8 (0 : Int32) M
set_option maxHeartbeats 4000000 in
set_option maxRecDepth 100000 in
theorem w_X6_anew_81 (C : CX p s m args meth c cX6_anew 11 (some .int) RX6 D cy ad zz 100 21 A) {N : Nat} {M : Mem} {x1 : Int32} {x2 : Int32} {x3 : Int32} {x4 : Int32} {k56 : Int32 → Int32 → Int32 → Mem → Option (Int32 × Mem)} {rr : Int32} {M' : Mem} (hk56 : ∀ (x5 : Int32), ∀ (x6 : Int32), ∀ (x7 : Int32), ∀ (M : Mem), ∀ (H : Heap) (locs : List Loc), va_P D vwCl (pool cy ad 100 21 M) H → va_D A (pool cy ad 100 21 M) → va_S A s.heap H locs → ∀ (ls : Array Slot), lv_has ls 11 [(0, .ref (ad 100)), (1, .int x1), (2, .int x2), (3, .int x3), (4, .int x4), (5, .int x5), (6, .int x6), (7, .int x7)] → k56 x5 x6 x7 M = some (rr, M') → W p l e ({ frames := 7, cells := 0, slots := 0, locals := 164 } : Room) s m args below meth c H locs 0 0 (MQ below (va_Qi (fun (x : Int32) (_ : Unit) => x = rr) (fun _ t => PA D cy ad 100 21 A M' t) A) args s 0 0 A) (F0 m 56 ls [])) {x5 : Int32} {x6 : Int32} {x7 : Int32} {x8 : Int32} {H : Heap} {locs : List Loc} (hP : va_P D vwCl (pool cy ad 100 21 M) H) (hD : va_D A (pool cy ad 100 21 M)) (hS : va_S A s.heap H locs) {ls : Array Slot} (hl : lv_has ls 11 [(0, .ref (ad 100)), (1, .int x1), (2, .int x2), (3, .int x3), (4, .int x4), (5, .int x5), (6, .int x6), (7, .int x7), (8, .int x8)]) (h : b_X6_anew_81 N x1 x2 x3 x4 k56 x5 x6 x7 x8 M = some (rr, M')) : W p l e ({ frames := 7, cells := 0, slots := 0, locals := 164 } : Room) s m args below meth c H locs 0 0 (MQ below (va_Qi (fun (x : Int32) (_ : Unit) => x = rr) (fun _ t => PA D cy ad 100 21 A M' t) A) args s 0 0 A) (F0 m 81 ls []) := by
  obtain ⟨hx, hb, hml, hown, hts, hr, hlk, hK, hN, hA, hX⟩ := id C
  unfold b_X6_anew_81 at h
  refine lv_iconst (v := 0) hx hb dX6_anew_81 (by decide) ?_
  refine lv_istore (lv' := [(9, .int (0 : Int32)), (0, .ref (ad 100)), (1, .int x1), (2, .int x2), (3, .int x3), (4, .int x4), (5, .int x5), (6, .int x6), (7, .int x7), (8, .int x8)]) hx hb dX6_anew_82 hl (by decide) rfl (fun ls hl => ?_)
  exact w_X6_anew_84 C hk56 N _ _ _ _ _ _ _ _ hP hD hS _ (lv_sub hl [1, 2, 3, 4, 5, 6, 7, 8, 9, 0] rfl) h
def b_X6_anew_56 (N : Nat) (x1 : Int32) (x2 : Int32) (x3 : Int32) (x4 : Int32) : Nat → Int32 → Int32 → Int32 → Mem → Option (Int32 × Mem)
  | 0, _, _, _, _ => none
  | fu + 1, x5, x6, x7, M => gd (inb x1 (len 105)) ((if (AI M 105 x1.toNatClampNeg) ≤ x7 then (if x4 = 0 then some (x5, M) else some (x6, M)) else gd (inb (((16 : Int32) * x1) + x7) (len 104)) (b_X6_anew_81 N x1 x2 x3 x4 (b_X6_anew_56 N x1 x2 x3 x4 fu) x5 x6 x7 (AI M 104 (((16 : Int32) * x1) + x7).toNatClampNeg) M)))
set_option maxHeartbeats 4000000 in
set_option maxRecDepth 100000 in
theorem w_X6_anew_56 (C : CX p s m args meth c cX6_anew 11 (some .int) RX6 D cy ad zz 100 21 A) {N : Nat} {x1 : Int32} {x2 : Int32} {x3 : Int32} {x4 : Int32} {rr : Int32} {M' : Mem}  : ∀ (fu : Nat), ∀ (x5 : Int32), ∀ (x6 : Int32), ∀ (x7 : Int32), ∀ (M : Mem), ∀ (H : Heap) (locs : List Loc), va_P D vwCl (pool cy ad 100 21 M) H → va_D A (pool cy ad 100 21 M) → va_S A s.heap H locs → ∀ (ls : Array Slot), lv_has ls 11 [(0, .ref (ad 100)), (1, .int x1), (2, .int x2), (3, .int x3), (4, .int x4), (5, .int x5), (6, .int x6), (7, .int x7)] → b_X6_anew_56 N x1 x2 x3 x4 fu x5 x6 x7 M = some (rr, M') → W p l e ({ frames := 7, cells := 0, slots := 0, locals := 164 } : Room) s m args below meth c H locs 0 0 (MQ below (va_Qi (fun (x : Int32) (_ : Unit) => x = rr) (fun _ t => PA D cy ad 100 21 A M' t) A) args s 0 0 A) (F0 m 56 ls []) := by
  obtain ⟨hx, hb, hml, hown, hts, hr, hlk, hK, hN, hA, hX⟩ := id C
  intro fu
  induction fu with
  | zero =>
    intro x5 x6 x7 M H locs hP hD hS ls hl h
    exact no_some (show none = some _ from h)
  | succ fu ih =>
    intro x5 x6 x7 M H locs hP hD hS ls hl h
    rw [b_X6_anew_56] at h
    refine lv_iload hx hb dX6_anew_56 (lv_at hl 7 rfl) ?_
    refine lv_aload_n hx hb dX6_anew_58 rfl (lv_at hl 0 rfl) ?_
    refine gf_6_5 C hP (iL (by decide)) (by decide) wd_887 dX6_anew_59 ?_
    refine lv_iload_n hx hb dX6_anew_62 rfl (lv_at hl 1 rfl) ?_
    obtain ⟨gi1, h⟩ := gd_of h
    refine ia_ld C hP (iL (by decide)) (by decide) gi1 dX6_anew_63 ?_
    refine lv_icmp_ge (tgt := 177) hx hb dX6_anew_64 (by decide) (fun c64 => ?_) (fun c64 => ?_)
    · replace h := it_t c64 h
      refine lv_iload hx hb dX6_anew_177 (lv_at hl 4 rfl) ?_
      refine lv_if_ne (tgt := 187) hx hb dX6_anew_179 (by decide) (fun c179 => ?_) (fun c179 => ?_)
      · replace h := it_f c179 h
        refine lv_iload hx hb dX6_anew_187 (lv_at hl 6 rfl) ?_
        exact rt_i (r := x6) C hP hD hS dX6_anew_189 (rw_end h)
      · replace h := it_t c179 h
        refine lv_iload hx hb dX6_anew_182 (lv_at hl 5 rfl) ?_
        refine lv_goto (tgt := 189) hx hb dX6_anew_184 (by decide) ?_
        exact rt_i (r := x5) C hP hD hS dX6_anew_189 (rw_end h)
    · replace h := it_f c64 h
      refine lv_aload_n hx hb dX6_anew_67 rfl (lv_at hl 0 rfl) ?_
      refine gf_6_4 C hP (iL (by decide)) (by decide) wd_886 dX6_anew_68 ?_
      refine lv_bipush (v := 16) hx hb dX6_anew_71 (by decide) ?_
      refine lv_iload_n hx hb dX6_anew_73 rfl (lv_at hl 1 rfl) ?_
      refine lv_imul hx hb dX6_anew_74 ?_
      refine lv_iload hx hb dX6_anew_75 (lv_at hl 7 rfl) ?_
      refine lv_iadd hx hb dX6_anew_77 ?_
      obtain ⟨gi2, h⟩ := gd_of h
      refine ia_ld C hP (iL (by decide)) (by decide) gi2 dX6_anew_78 ?_
      refine lv_istore (lv' := [(8, .int (AI M 104 (((16 : Int32) * x1) + x7).toNatClampNeg)), (0, .ref (ad 100)), (1, .int x1), (2, .int x2), (3, .int x3), (4, .int x4), (5, .int x5), (6, .int x6), (7, .int x7)]) hx hb dX6_anew_79 hl (by decide) rfl (fun ls hl => ?_)
      exact w_X6_anew_81 C ih hP hD hS (lv_sub hl [1, 2, 3, 4, 5, 6, 7, 8, 0] rfl) h
def b_X6_anew_0 (N : Nat) (x1 : Int32) (x2 : Int32) (x3 : Int32) (x4 : Int32) (M : Mem) : Option (Int32 × Mem) := (f_X6_isOne x1 M).bind fun r2 => (if r2 = true then (f_X6_isCell x2 M).bind fun r12 => (if r12 = true then (f_X6_in x3 (0 : Int32) (20 : Int32) M).bind fun r22 => (if r22 = true then (f_X6_in x4 (0 : Int32) (1 : Int32) M).bind fun r32 => (if r32 = true then bd2 (f_X6_farBehind N x1 x2 x3 M) fun r48 M48 => b_X6_anew_56 N x1 x2 x3 x4 N (-1 : Int32) r48 (0 : Int32) M48 else some ((-7 : Int32), M)) else some ((-7 : Int32), M)) else some ((-7 : Int32), M)) else some ((-5 : Int32), M))
set_option maxHeartbeats 4000000 in
set_option maxRecDepth 100000 in
theorem w_X6_anew_0 (C : CX p s m args meth c cX6_anew 11 (some .int) RX6 D cy ad zz 100 21 A) {N : Nat} {M : Mem} {x1 : Int32} {x2 : Int32} {x3 : Int32} {x4 : Int32} {rr : Int32} {M' : Mem} {H : Heap} {locs : List Loc} (hP : va_P D vwCl (pool cy ad 100 21 M) H) (hD : va_D A (pool cy ad 100 21 M)) (hS : va_S A s.heap H locs) {ls : Array Slot} (hl : lv_has ls 11 [(0, .ref (ad 100)), (1, .int x1), (2, .int x2), (3, .int x3), (4, .int x4)]) (h : b_X6_anew_0 N x1 x2 x3 x4 M = some (rr, M')) : W p l e ({ frames := 7, cells := 0, slots := 0, locals := 164 } : Room) s m args below meth c H locs 0 0 (MQ below (va_Qi (fun (x : Int32) (_ : Unit) => x = rr) (fun _ t => PA D cy ad 100 21 A M' t) A) args s 0 0 A) (F0 m 0 ls []) := by
  obtain ⟨hx, hb, hml, hown, hts, hr, hlk, hK, hN, hA, hX⟩ := id C
  unfold b_X6_anew_0 at h
  refine lv_aload_n hx hb dX6_anew_0 rfl (lv_at hl 0 rfl) ?_
  refine lv_iload_n hx hb dX6_anew_1 rfl (lv_at hl 1 rfl) ?_
  obtain ⟨r2, g2, h⟩ := bd_of h
  refine call_iV (As := [.int x1]) (rest := []) C hP hD hS (c_X6_isOne g2) (iL (by decide)) ⟨6, _, _, ent_6 (by decide), rfl, rfl⟩ (gV wd_1034 wd_1036 wd_39 wd_75 wd_1037) ev_X6_isOne ⟨rfl, rfl⟩ ⟨Nat.le_of_ble_eq_true rfl, Nat.le_of_ble_eq_true rfl⟩ hl.1 rfl (Nat.le_of_ble_eq_true rfl) dX6_anew_2 (fun H locs hP hD hS => ?_)
  refine lv_if_ne (tgt := 11) hx hb dX6_anew_5 (by decide) (fun c5 => ?_) (fun c5 => ?_)
  · replace h := it_t (b2i_1 c5) h
    refine lv_iload_n hx hb dX6_anew_11 rfl (lv_at hl 2 rfl) ?_
    obtain ⟨r12, g12, h⟩ := bd_of h
    refine call_iS (As := [.int x2]) (rest := []) C hP hD hS (c_X6_isCell g12) (gS wd_1010 wd_1011 wd_75 wd_1012) es_X6_isCell ⟨rfl, rfl⟩ ⟨Nat.le_of_ble_eq_true rfl, Nat.le_of_ble_eq_true rfl⟩ hl.1 rfl (Nat.le_of_ble_eq_true rfl) dX6_anew_12 (fun H locs hP hD hS => ?_)
    refine lv_if_eq (tgt := 38) hx hb dX6_anew_15 (by decide) (fun c15 => ?_) (fun c15 => ?_)
    · replace h := it_f (b2i_n c15) h
      refine lv_bipush (v := -7) hx hb dX6_anew_38 (by decide) ?_
      exact rt_i (r := (-7 : Int32)) C hP hD hS dX6_anew_40 (rw_end h)
    · replace h := it_t (b2i_1 c15) h
      refine lv_iload_n hx hb dX6_anew_18 rfl (lv_at hl 3 rfl) ?_
      refine lv_iconst (v := 0) hx hb dX6_anew_19 (by decide) ?_
      refine lv_bipush (v := 20) hx hb dX6_anew_20 (by decide) ?_
      obtain ⟨r22, g22, h⟩ := bd_of h
      refine call_iS (As := [.int x3, .int (0 : Int32), .int (20 : Int32)]) (rest := []) C hP hD hS (c_X6_in g22) (gS wd_843 wd_844 wd_75 wd_845) es_X6_in ⟨rfl, rfl⟩ ⟨Nat.le_of_ble_eq_true rfl, Nat.le_of_ble_eq_true rfl⟩ hl.1 rfl (Nat.le_of_ble_eq_true rfl) dX6_anew_22 (fun H locs hP hD hS => ?_)
      refine lv_if_eq (tgt := 38) hx hb dX6_anew_25 (by decide) (fun c25 => ?_) (fun c25 => ?_)
      · replace h := it_f (b2i_n c25) h
        refine lv_bipush (v := -7) hx hb dX6_anew_38 (by decide) ?_
        exact rt_i (r := (-7 : Int32)) C hP hD hS dX6_anew_40 (rw_end h)
      · replace h := it_t (b2i_1 c25) h
        refine lv_iload hx hb dX6_anew_28 (lv_at hl 4 rfl) ?_
        refine lv_iconst (v := 0) hx hb dX6_anew_30 (by decide) ?_
        refine lv_iconst (v := 1) hx hb dX6_anew_31 (by decide) ?_
        obtain ⟨r32, g32, h⟩ := bd_of h
        refine call_iS (As := [.int x4, .int (0 : Int32), .int (1 : Int32)]) (rest := []) C hP hD hS (c_X6_in g32) (gS wd_843 wd_844 wd_75 wd_845) es_X6_in ⟨rfl, rfl⟩ ⟨Nat.le_of_ble_eq_true rfl, Nat.le_of_ble_eq_true rfl⟩ hl.1 rfl (Nat.le_of_ble_eq_true rfl) dX6_anew_32 (fun H locs hP hD hS => ?_)
        refine lv_if_ne (tgt := 41) hx hb dX6_anew_35 (by decide) (fun c35 => ?_) (fun c35 => ?_)
        · replace h := it_t (b2i_1 c35) h
          refine lv_iconst (v := -1) hx hb dX6_anew_41 (by decide) ?_
          refine lv_istore (lv' := [(5, .int (-1 : Int32)), (0, .ref (ad 100)), (1, .int x1), (2, .int x2), (3, .int x3), (4, .int x4)]) hx hb dX6_anew_42 hl (by decide) rfl (fun ls hl => ?_)
          refine lv_aload_n hx hb dX6_anew_44 rfl (lv_at hl 1 rfl) ?_
          refine lv_iload_n hx hb dX6_anew_45 rfl (lv_at hl 2 rfl) ?_
          refine lv_iload_n hx hb dX6_anew_46 rfl (lv_at hl 3 rfl) ?_
          refine lv_iload_n hx hb dX6_anew_47 rfl (lv_at hl 4 rfl) ?_
          obtain ⟨r48, M48, g48, h⟩ := bd2_of h
          refine call_iV (As := [.int x1, .int x2, .int x3]) (rest := []) C hP hD hS (c_X6_farBehind g48) (iL (by decide)) ⟨6, _, _, ent_6 (by decide), rfl, rfl⟩ (gV wd_1165 wd_1167 wd_57 wd_75 wd_1168) ev_X6_farBehind ⟨rfl, rfl⟩ ⟨Nat.le_of_ble_eq_true rfl, Nat.le_of_ble_eq_true rfl⟩ hl.1 rfl (Nat.le_of_ble_eq_true rfl) dX6_anew_48 (fun H locs hP hD hS => ?_)
          refine lv_istore (lv' := [(6, .int r48), (5, .int (-1 : Int32)), (0, .ref (ad 100)), (1, .int x1), (2, .int x2), (3, .int x3), (4, .int x4)]) hx hb dX6_anew_51 hl (by decide) rfl (fun ls hl => ?_)
          refine lv_iconst (v := 0) hx hb dX6_anew_53 (by decide) ?_
          refine lv_istore (lv' := [(7, .int (0 : Int32)), (6, .int r48), (5, .int (-1 : Int32)), (0, .ref (ad 100)), (1, .int x1), (2, .int x2), (3, .int x3), (4, .int x4)]) hx hb dX6_anew_54 hl (by decide) rfl (fun ls hl => ?_)
          exact w_X6_anew_56 C N _ _ _ _ _ _ hP hD hS _ (lv_sub hl [3, 4, 5, 6, 7, 2, 1, 0] rfl) h
        · replace h := it_f (b2i_n c35) h
          refine lv_bipush (v := -7) hx hb dX6_anew_38 (by decide) ?_
          exact rt_i (r := (-7 : Int32)) C hP hD hS dX6_anew_40 (rw_end h)
  · replace h := it_f (b2i_n c5) h
    refine lv_bipush (v := -5) hx hb dX6_anew_8 (by decide) ?_
    exact rt_i (r := (-5 : Int32)) C hP hD hS dX6_anew_10 (rw_end h)
def f_X6_anew (N : Nat) (x1 : Int32) (x2 : Int32) (x3 : Int32) (x4 : Int32) (M : Mem) : Option (Int32 × Mem) := b_X6_anew_0 N x1 x2 x3 x4 M
theorem c_X6_anew {l : Launch} {D : va_G} {cy : Nat → ClassId} {ad : Nat → Nat} {zz : (Nat → Nat) × (Nat → Nat)} {N : Nat} {x1 : Int32} {x2 : Int32} {x3 : Int32} {x4 : Int32} {M : Mem} {rr : Int32} {M' : Mem} (h : f_X6_anew N x1 x2 x3 x4 M = some (rr, M')) : CTi l D cy ad zz 100 21 yX6_anew (.code yX6_anew cX6_anew 11 (some .int) :: tb) ({ frames := 7, cells := 0, slots := 0, locals := 164 } : Room) [.ref (ad 100), .int x1, .int x2, .int x3, .int x4] M rr M' := by
  intro sz
  refine CX.of (by decide +kernel) (fun p e s m args below meth c H ls C hP hD hS hl => ?_) (Nat.le_of_ble_eq_true rfl)
  exact w_X6_anew_0 C hP hD hS hl h
theorem ev_X6_anew : yX6_anew.cls = RX6 ∧ yX6_anew.cls ≠ "java/lang/invoke/MethodHandle" ∧ yX6_anew.cls ≠ "java/lang/invoke/VarHandle" ∧ (parseMethodDescriptor yX6_anew.desc).map (fun d => d.parameters.length) = some 4 := by decide +kernel
def b_X6_milesBehind_0 (N : Nat) (x1 : Int32) (M : Mem) : Option (Int32 × Mem) := (f_X6_keeps N M).bind fun M1 => (f_X6_goes N x1 M1).bind fun M6 => (f_X6_lays N M6).bind fun M10 => some ((FI M10 100 34), M10)
set_option maxHeartbeats 4000000 in
set_option maxRecDepth 100000 in
theorem w_X6_milesBehind_0 (C : CX p s m args meth c cX6_milesBehind 2 (some .int) RX6 D cy ad zz 100 21 A) {N : Nat} {M : Mem} {x1 : Int32} {rr : Int32} {M' : Mem} {H : Heap} {locs : List Loc} (hP : va_P D vwCl (pool cy ad 100 21 M) H) (hD : va_D A (pool cy ad 100 21 M)) (hS : va_S A s.heap H locs) {ls : Array Slot} (hl : lv_has ls 2 [(0, .ref (ad 100)), (1, .int x1)]) (h : b_X6_milesBehind_0 N x1 M = some (rr, M')) : W p l e ({ frames := 6, cells := 0, slots := 0, locals := 140 } : Room) s m args below meth c H locs 0 0 (MQ below (va_Qi (fun (x : Int32) (_ : Unit) => x = rr) (fun _ t => PA D cy ad 100 21 A M' t) A) args s 0 0 A) (F0 m 0 ls []) := by
  obtain ⟨hx, hb, hml, hown, hts, hr, hlk, hK, hN, hA, hX⟩ := id C
  unfold b_X6_milesBehind_0 at h
  refine lv_aload_n hx hb dX6_milesBehind_0 rfl (lv_at hl 0 rfl) ?_
  obtain ⟨M1, g1, h⟩ := bd_of h
  refine call_vV (As := []) (rest := []) C hP hD hS (c_X6_keeps g1) (iL (by decide)) ⟨6, _, _, ent_6 (by decide), rfl, rfl⟩ (gV wd_1104 wd_1106 wd_47 wd_75 wd_1107) ev_X6_keeps ⟨rfl, rfl⟩ ⟨Nat.le_of_ble_eq_true rfl, Nat.le_of_ble_eq_true rfl⟩ hl.1 rfl (Nat.le_of_ble_eq_true rfl) dX6_milesBehind_1 (fun H locs hP hD hS => ?_)
  refine lv_aload_n hx hb dX6_milesBehind_4 rfl (lv_at hl 0 rfl) ?_
  refine lv_iload_n hx hb dX6_milesBehind_5 rfl (lv_at hl 1 rfl) ?_
  obtain ⟨M6, g6, h⟩ := bd_of h
  refine call_vV (As := [.int x1]) (rest := []) C hP hD hS (c_X6_goes g6) (iL (by decide)) ⟨6, _, _, ent_6 (by decide), rfl, rfl⟩ (gV wd_1108 wd_1110 wd_48 wd_75 wd_1111) ev_X6_goes ⟨rfl, rfl⟩ ⟨Nat.le_of_ble_eq_true rfl, Nat.le_of_ble_eq_true rfl⟩ hl.1 rfl (Nat.le_of_ble_eq_true rfl) dX6_milesBehind_6 (fun H locs hP hD hS => ?_)
  refine lv_aload_n hx hb dX6_milesBehind_9 rfl (lv_at hl 0 rfl) ?_
  obtain ⟨M10, g10, h⟩ := bd_of h
  refine call_vV (As := []) (rest := []) C hP hD hS (c_X6_lays g10) (iL (by decide)) ⟨6, _, _, ent_6 (by decide), rfl, rfl⟩ (gV wd_1124 wd_1126 wd_52 wd_75 wd_1127) ev_X6_lays ⟨rfl, rfl⟩ ⟨Nat.le_of_ble_eq_true rfl, Nat.le_of_ble_eq_true rfl⟩ hl.1 rfl (Nat.le_of_ble_eq_true rfl) dX6_milesBehind_10 (fun H locs hP hD hS => ?_)
  refine lv_aload_n hx hb dX6_milesBehind_13 rfl (lv_at hl 0 rfl) ?_
  refine gf_6_34 C hP (iL (by decide)) (by decide) wd_916 dX6_milesBehind_14 ?_
  exact rt_i (r := (FI M10 100 34)) C hP hD hS dX6_milesBehind_17 (rw_end h)
def f_X6_milesBehind (N : Nat) (x1 : Int32) (M : Mem) : Option (Int32 × Mem) := b_X6_milesBehind_0 N x1 M
theorem c_X6_milesBehind {l : Launch} {D : va_G} {cy : Nat → ClassId} {ad : Nat → Nat} {zz : (Nat → Nat) × (Nat → Nat)} {N : Nat} {x1 : Int32} {M : Mem} {rr : Int32} {M' : Mem} (h : f_X6_milesBehind N x1 M = some (rr, M')) : CTi l D cy ad zz 100 21 yX6_milesBehind (.code yX6_milesBehind cX6_milesBehind 2 (some .int) :: tb) ({ frames := 6, cells := 0, slots := 0, locals := 140 } : Room) [.ref (ad 100), .int x1] M rr M' := by
  intro sz
  refine CX.of (by decide +kernel) (fun p e s m args below meth c H ls C hP hD hS hl => ?_) (Nat.le_of_ble_eq_true rfl)
  exact w_X6_milesBehind_0 C hP hD hS hl h
theorem ev_X6_milesBehind : yX6_milesBehind.cls = RX6 ∧ yX6_milesBehind.cls ≠ "java/lang/invoke/MethodHandle" ∧ yX6_milesBehind.cls ≠ "java/lang/invoke/VarHandle" ∧ (parseMethodDescriptor yX6_milesBehind.desc).map (fun d => d.parameters.length) = some 1 := by decide +kernel
def b_X6_drain_122 (N : Nat) (x1 : Int32) (x2 : Int32) (x5 : Int32) (x6 : Int32) (M : Mem) : Option (Int32 × Mem) := (if x2 = 0 then some (x5, M) else some (x6, M))
set_option maxHeartbeats 4000000 in
set_option maxRecDepth 100000 in
theorem w_X6_drain_122 (C : CX p s m args meth c cX6_drain 9 (some .int) RX6 D cy ad zz 100 21 A) {N : Nat} {M : Mem} {x1 : Int32} {x2 : Int32} {rr : Int32} {M' : Mem} {x5 : Int32} {x6 : Int32} {H : Heap} {locs : List Loc} (hP : va_P D vwCl (pool cy ad 100 21 M) H) (hD : va_D A (pool cy ad 100 21 M)) (hS : va_S A s.heap H locs) {ls : Array Slot} (hl : lv_has ls 9 [(2, .int x2), (5, .int x5), (6, .int x6)]) (h : b_X6_drain_122 N x1 x2 x5 x6 M = some (rr, M')) : W p l e ({ frames := 7, cells := 0, slots := 0, locals := 161 } : Room) s m args below meth c H locs 0 0 (MQ below (va_Qi (fun (x : Int32) (_ : Unit) => x = rr) (fun _ t => PA D cy ad 100 21 A M' t) A) args s 0 0 A) (F0 m 122 ls []) := by
  obtain ⟨hx, hb, hml, hown, hts, hr, hlk, hK, hN, hA, hX⟩ := id C
  unfold b_X6_drain_122 at h
  refine lv_iload_n hx hb dX6_drain_122 rfl (lv_at hl 0 rfl) ?_
  refine lv_if_ne (tgt := 131) hx hb dX6_drain_123 (by decide) (fun c123 => ?_) (fun c123 => ?_)
  · replace h := it_f c123 h
    refine lv_iload hx hb dX6_drain_131 (lv_at hl 2 rfl) ?_
    exact rt_i (r := x6) C hP hD hS dX6_drain_133 (rw_end h)
  · replace h := it_t c123 h
    refine lv_iload hx hb dX6_drain_126 (lv_at hl 1 rfl) ?_
    refine lv_goto (tgt := 133) hx hb dX6_drain_128 (by decide) ?_
    exact rt_i (r := x5) C hP hD hS dX6_drain_133 (rw_end h)
def b_X6_drain_111 (N : Nat) (x1 : Int32) (x2 : Int32) (k40 : Int64 → Int32 → Int32 → Int32 → Mem → Option (Int32 × Mem)) (y3 : Int64) (x5 : Int32) (x6 : Int32) (x7 : Int32) (M : Mem) : Option (Int32 × Mem) := k40 y3 x5 x6 (x7 + (1 : Int32)) M
set_option maxHeartbeats 4000000 in
set_option maxRecDepth 100000 in
theorem w_X6_drain_111 (C : CX p s m args meth c cX6_drain 9 (some .int) RX6 D cy ad zz 100 21 A) {N : Nat} {M : Mem} {x1 : Int32} {x2 : Int32} {k40 : Int64 → Int32 → Int32 → Int32 → Mem → Option (Int32 × Mem)} {rr : Int32} {M' : Mem} (hk40 : ∀ (y3 : Int64), ∀ (x5 : Int32), ∀ (x6 : Int32), ∀ (x7 : Int32), ∀ (M : Mem), ∀ (H : Heap) (locs : List Loc), va_P D vwCl (pool cy ad 100 21 M) H → va_D A (pool cy ad 100 21 M) → va_S A s.heap H locs → ∀ (ls : Array Slot), lv_has ls 9 [(0, .ref (ad 100)), (1, .int x1), (2, .int x2), (3, .long y3), (5, .int x5), (6, .int x6), (7, .int x7)] → k40 y3 x5 x6 x7 M = some (rr, M') → W p l e ({ frames := 7, cells := 0, slots := 0, locals := 161 } : Room) s m args below meth c H locs 0 0 (MQ below (va_Qi (fun (x : Int32) (_ : Unit) => x = rr) (fun _ t => PA D cy ad 100 21 A M' t) A) args s 0 0 A) (F0 m 40 ls [])) {y3 : Int64} {x5 : Int32} {x6 : Int32} {x7 : Int32} {H : Heap} {locs : List Loc} (hP : va_P D vwCl (pool cy ad 100 21 M) H) (hD : va_D A (pool cy ad 100 21 M)) (hS : va_S A s.heap H locs) {ls : Array Slot} (hl : lv_has ls 9 [(0, .ref (ad 100)), (1, .int x1), (2, .int x2), (3, .long y3), (5, .int x5), (6, .int x6), (7, .int x7)]) (h : b_X6_drain_111 N x1 x2 k40 y3 x5 x6 x7 M = some (rr, M')) : W p l e ({ frames := 7, cells := 0, slots := 0, locals := 161 } : Room) s m args below meth c H locs 0 0 (MQ below (va_Qi (fun (x : Int32) (_ : Unit) => x = rr) (fun _ t => PA D cy ad 100 21 A M' t) A) args s 0 0 A) (F0 m 111 ls []) := by
  obtain ⟨hx, hb, hml, hown, hts, hr, hlk, hK, hN, hA, hX⟩ := id C
  unfold b_X6_drain_111 at h
  refine lv_iinc (v := (x7 + (1 : Int32))) (lv' := [(7, .int (x7 + (1 : Int32))), (0, .ref (ad 100)), (1, .int x1), (2, .int x2), (3, .long y3), (5, .int x5), (6, .int x6)]) hx hb dX6_drain_111 hl (k := 6) rfl rfl (by decide) rfl (fun ls hl => ?_)
  refine lv_goto (tgt := 40) hx hb dX6_drain_114 (by decide) ?_
  exact hk40 _ _ _ _ _ _ _ hP hD hS _ (lv_sub hl [1, 2, 3, 4, 5, 6, 0] rfl) h
def b_X6_drain_109 (N : Nat) (x1 : Int32) (x2 : Int32) (k40 : Int64 → Int32 → Int32 → Int32 → Mem → Option (Int32 × Mem)) (y3 : Int64) (x5 : Int32) (x7 : Int32) (t0 : Int32) (M : Mem) : Option (Int32 × Mem) := b_X6_drain_111 N x1 x2 k40 y3 x5 t0 x7 M
set_option maxHeartbeats 4000000 in
set_option maxRecDepth 100000 in
theorem w_X6_drain_109 (C : CX p s m args meth c cX6_drain 9 (some .int) RX6 D cy ad zz 100 21 A) {N : Nat} {M : Mem} {x1 : Int32} {x2 : Int32} {k40 : Int64 → Int32 → Int32 → Int32 → Mem → Option (Int32 × Mem)} {rr : Int32} {M' : Mem} (hk40 : ∀ (y3 : Int64), ∀ (x5 : Int32), ∀ (x6 : Int32), ∀ (x7 : Int32), ∀ (M : Mem), ∀ (H : Heap) (locs : List Loc), va_P D vwCl (pool cy ad 100 21 M) H → va_D A (pool cy ad 100 21 M) → va_S A s.heap H locs → ∀ (ls : Array Slot), lv_has ls 9 [(0, .ref (ad 100)), (1, .int x1), (2, .int x2), (3, .long y3), (5, .int x5), (6, .int x6), (7, .int x7)] → k40 y3 x5 x6 x7 M = some (rr, M') → W p l e ({ frames := 7, cells := 0, slots := 0, locals := 161 } : Room) s m args below meth c H locs 0 0 (MQ below (va_Qi (fun (x : Int32) (_ : Unit) => x = rr) (fun _ t => PA D cy ad 100 21 A M' t) A) args s 0 0 A) (F0 m 40 ls [])) {y3 : Int64} {x5 : Int32} {x7 : Int32} {t0 : Int32} {H : Heap} {locs : List Loc} (hP : va_P D vwCl (pool cy ad 100 21 M) H) (hD : va_D A (pool cy ad 100 21 M)) (hS : va_S A s.heap H locs) {ls : Array Slot} (hl : lv_has ls 9 [(0, .ref (ad 100)), (1, .int x1), (2, .int x2), (3, .long y3), (5, .int x5), (7, .int x7)]) (h : b_X6_drain_109 N x1 x2 k40 y3 x5 x7 t0 M = some (rr, M')) : W p l e ({ frames := 7, cells := 0, slots := 0, locals := 161 } : Room) s m args below meth c H locs 0 0 (MQ below (va_Qi (fun (x : Int32) (_ : Unit) => x = rr) (fun _ t => PA D cy ad 100 21 A M' t) A) args s 0 0 A) (F0 m 109 ls [.int t0]) := by
  obtain ⟨hx, hb, hml, hown, hts, hr, hlk, hK, hN, hA, hX⟩ := id C
  unfold b_X6_drain_109 at h
  refine lv_istore (lv' := [(6, .int t0), (0, .ref (ad 100)), (1, .int x1), (2, .int x2), (3, .long y3), (5, .int x5), (7, .int x7)]) hx hb dX6_drain_109 hl (by decide) rfl (fun ls hl => ?_)
  exact w_X6_drain_111 C hk40 hP hD hS (lv_sub hl [1, 2, 3, 4, 5, 0, 6] rfl) h
def b_X6_drain_93 (N : Nat) (x1 : Int32) (x2 : Int32) (k40 : Int64 → Int32 → Int32 → Int32 → Mem → Option (Int32 × Mem)) (y3 : Int64) (x6 : Int32) (x7 : Int32) (x8 : Int32) (t0 : Int32) (M : Mem) : Option (Int32 × Mem) := (if x8 ≤ x6 then b_X6_drain_109 N x1 x2 k40 y3 t0 x7 x6 M else b_X6_drain_109 N x1 x2 k40 y3 t0 x7 x8 M)
set_option maxHeartbeats 4000000 in
set_option maxRecDepth 100000 in
theorem w_X6_drain_93 (C : CX p s m args meth c cX6_drain 9 (some .int) RX6 D cy ad zz 100 21 A) {N : Nat} {M : Mem} {x1 : Int32} {x2 : Int32} {k40 : Int64 → Int32 → Int32 → Int32 → Mem → Option (Int32 × Mem)} {rr : Int32} {M' : Mem} (hk40 : ∀ (y3 : Int64), ∀ (x5 : Int32), ∀ (x6 : Int32), ∀ (x7 : Int32), ∀ (M : Mem), ∀ (H : Heap) (locs : List Loc), va_P D vwCl (pool cy ad 100 21 M) H → va_D A (pool cy ad 100 21 M) → va_S A s.heap H locs → ∀ (ls : Array Slot), lv_has ls 9 [(0, .ref (ad 100)), (1, .int x1), (2, .int x2), (3, .long y3), (5, .int x5), (6, .int x6), (7, .int x7)] → k40 y3 x5 x6 x7 M = some (rr, M') → W p l e ({ frames := 7, cells := 0, slots := 0, locals := 161 } : Room) s m args below meth c H locs 0 0 (MQ below (va_Qi (fun (x : Int32) (_ : Unit) => x = rr) (fun _ t => PA D cy ad 100 21 A M' t) A) args s 0 0 A) (F0 m 40 ls [])) {y3 : Int64} {x6 : Int32} {x7 : Int32} {x8 : Int32} {t0 : Int32} {H : Heap} {locs : List Loc} (hP : va_P D vwCl (pool cy ad 100 21 M) H) (hD : va_D A (pool cy ad 100 21 M)) (hS : va_S A s.heap H locs) {ls : Array Slot} (hl : lv_has ls 9 [(0, .ref (ad 100)), (1, .int x1), (2, .int x2), (3, .long y3), (6, .int x6), (7, .int x7), (8, .int x8)]) (h : b_X6_drain_93 N x1 x2 k40 y3 x6 x7 x8 t0 M = some (rr, M')) : W p l e ({ frames := 7, cells := 0, slots := 0, locals := 161 } : Room) s m args below meth c H locs 0 0 (MQ below (va_Qi (fun (x : Int32) (_ : Unit) => x = rr) (fun _ t => PA D cy ad 100 21 A M' t) A) args s 0 0 A) (F0 m 93 ls [.int t0]) := by
  obtain ⟨hx, hb, hml, hown, hts, hr, hlk, hK, hN, hA, hX⟩ := id C
  unfold b_X6_drain_93 at h
  refine lv_istore (lv' := [(5, .int t0), (0, .ref (ad 100)), (1, .int x1), (2, .int x2), (3, .long y3), (6, .int x6), (7, .int x7), (8, .int x8)]) hx hb dX6_drain_93 hl (by decide) rfl (fun ls hl => ?_)
  refine lv_iload hx hb dX6_drain_95 (lv_at hl 7 rfl) ?_
  refine lv_iload hx hb dX6_drain_97 (lv_at hl 5 rfl) ?_
  refine lv_icmp_le (tgt := 107) hx hb dX6_drain_99 (by decide) (fun c99 => ?_) (fun c99 => ?_)
  · replace h := it_t c99 h
    refine lv_iload hx hb dX6_drain_107 (lv_at hl 5 rfl) ?_
    exact w_X6_drain_109 C hk40 hP hD hS (lv_sub hl [1, 2, 3, 4, 0, 6] rfl) h
  · replace h := it_f c99 h
    refine lv_iload hx hb dX6_drain_102 (lv_at hl 7 rfl) ?_
    refine lv_goto (tgt := 109) hx hb dX6_drain_104 (by decide) ?_
    exact w_X6_drain_109 C hk40 hP hD hS (lv_sub hl [1, 2, 3, 4, 0, 6] rfl) h
def b_X6_drain_72 (N : Nat) (x1 : Int32) (x2 : Int32) (k40 : Int64 → Int32 → Int32 → Int32 → Mem → Option (Int32 × Mem)) (y3 : Int64) (x5 : Int32) (x6 : Int32) (x7 : Int32) (M : Mem) : Option (Int32 × Mem) := bd2 (f_X6_milesBehind N x1 M) fun r74 M74 => (if r74 ≤ x6 then b_X6_drain_93 N x1 x2 k40 y3 x6 x7 r74 x5 M74 else b_X6_drain_93 N x1 x2 k40 y3 x6 x7 r74 x7 M74)
set_option maxHeartbeats 4000000 in
set_option maxRecDepth 100000 in
theorem w_X6_drain_72 (C : CX p s m args meth c cX6_drain 9 (some .int) RX6 D cy ad zz 100 21 A) {N : Nat} {M : Mem} {x1 : Int32} {x2 : Int32} {k40 : Int64 → Int32 → Int32 → Int32 → Mem → Option (Int32 × Mem)} {rr : Int32} {M' : Mem} (hk40 : ∀ (y3 : Int64), ∀ (x5 : Int32), ∀ (x6 : Int32), ∀ (x7 : Int32), ∀ (M : Mem), ∀ (H : Heap) (locs : List Loc), va_P D vwCl (pool cy ad 100 21 M) H → va_D A (pool cy ad 100 21 M) → va_S A s.heap H locs → ∀ (ls : Array Slot), lv_has ls 9 [(0, .ref (ad 100)), (1, .int x1), (2, .int x2), (3, .long y3), (5, .int x5), (6, .int x6), (7, .int x7)] → k40 y3 x5 x6 x7 M = some (rr, M') → W p l e ({ frames := 7, cells := 0, slots := 0, locals := 161 } : Room) s m args below meth c H locs 0 0 (MQ below (va_Qi (fun (x : Int32) (_ : Unit) => x = rr) (fun _ t => PA D cy ad 100 21 A M' t) A) args s 0 0 A) (F0 m 40 ls [])) {y3 : Int64} {x5 : Int32} {x6 : Int32} {x7 : Int32} {H : Heap} {locs : List Loc} (hP : va_P D vwCl (pool cy ad 100 21 M) H) (hD : va_D A (pool cy ad 100 21 M)) (hS : va_S A s.heap H locs) {ls : Array Slot} (hl : lv_has ls 9 [(0, .ref (ad 100)), (1, .int x1), (2, .int x2), (3, .long y3), (5, .int x5), (6, .int x6), (7, .int x7)]) (h : b_X6_drain_72 N x1 x2 k40 y3 x5 x6 x7 M = some (rr, M')) : W p l e ({ frames := 7, cells := 0, slots := 0, locals := 161 } : Room) s m args below meth c H locs 0 0 (MQ below (va_Qi (fun (x : Int32) (_ : Unit) => x = rr) (fun _ t => PA D cy ad 100 21 A M' t) A) args s 0 0 A) (F0 m 72 ls []) := by
  obtain ⟨hx, hb, hml, hown, hts, hr, hlk, hK, hN, hA, hX⟩ := id C
  unfold b_X6_drain_72 at h
  refine lv_aload_n hx hb dX6_drain_72 rfl (lv_at hl 0 rfl) ?_
  refine lv_iload_n hx hb dX6_drain_73 rfl (lv_at hl 1 rfl) ?_
  obtain ⟨r74, M74, g74, h⟩ := bd2_of h
  refine call_iV (As := [.int x1]) (rest := []) C hP hD hS (c_X6_milesBehind g74) (iL (by decide)) ⟨6, _, _, ent_6 (by decide), rfl, rfl⟩ (gV wd_1176 wd_1178 wd_58 wd_75 wd_1179) ev_X6_milesBehind ⟨rfl, rfl⟩ ⟨Nat.le_of_ble_eq_true rfl, Nat.le_of_ble_eq_true rfl⟩ hl.1 rfl (Nat.le_of_ble_eq_true rfl) dX6_drain_74 (fun H locs hP hD hS => ?_)
  refine lv_istore (lv' := [(8, .int r74), (0, .ref (ad 100)), (1, .int x1), (2, .int x2), (3, .long y3), (5, .int x5), (6, .int x6), (7, .int x7)]) hx hb dX6_drain_77 hl (by decide) rfl (fun ls hl => ?_)
  refine lv_iload hx hb dX6_drain_79 (lv_at hl 0 rfl) ?_
  refine lv_iload hx hb dX6_drain_81 (lv_at hl 6 rfl) ?_
  refine lv_icmp_le (tgt := 91) hx hb dX6_drain_83 (by decide) (fun c83 => ?_) (fun c83 => ?_)
  · replace h := it_t c83 h
    refine lv_iload hx hb dX6_drain_91 (lv_at hl 5 rfl) ?_
    exact w_X6_drain_93 C hk40 hP hD hS (lv_sub hl [1, 2, 3, 4, 6, 7, 0] rfl) h
  · replace h := it_f c83 h
    refine lv_iload hx hb dX6_drain_86 (lv_at hl 7 rfl) ?_
    refine lv_goto (tgt := 93) hx hb dX6_drain_88 (by decide) ?_
    exact w_X6_drain_93 C hk40 hP hD hS (lv_sub hl [1, 2, 3, 4, 6, 7, 0] rfl) h
def b_X6_drain_40 (N : Nat) (x1 : Int32) (x2 : Int32) : Nat → Int64 → Int32 → Int32 → Int32 → Mem → Option (Int32 × Mem)
  | 0, _, _, _, _, _ => none
  | fu + 1, y3, x5, x6, x7, M => (if (64 : Int32) ≤ x7 then b_X6_drain_122 N x1 x2 x5 x6 (sFJ M 100 6 y3) else (if (lg_cmp ((y3 >>> (x7.toInt64 &&& 63)) &&& (1 : Int64)) (1 : Int64)) = 0 then b_X6_drain_72 N x1 x2 (b_X6_drain_40 N x1 x2 fu) y3 x5 x6 x7 (sFJ M 100 6 (y3 &&& (((1 : Int64) <<< (x7.toInt64 &&& 63)) ^^^ (-1 : Int64)))) else b_X6_drain_111 N x1 x2 (b_X6_drain_40 N x1 x2 fu) y3 x5 x6 x7 M))
set_option maxHeartbeats 4000000 in
set_option maxRecDepth 100000 in
theorem w_X6_drain_40 (C : CX p s m args meth c cX6_drain 9 (some .int) RX6 D cy ad zz 100 21 A) {N : Nat} {x1 : Int32} {x2 : Int32} {rr : Int32} {M' : Mem}  : ∀ (fu : Nat), ∀ (y3 : Int64), ∀ (x5 : Int32), ∀ (x6 : Int32), ∀ (x7 : Int32), ∀ (M : Mem), ∀ (H : Heap) (locs : List Loc), va_P D vwCl (pool cy ad 100 21 M) H → va_D A (pool cy ad 100 21 M) → va_S A s.heap H locs → ∀ (ls : Array Slot), lv_has ls 9 [(0, .ref (ad 100)), (1, .int x1), (2, .int x2), (3, .long y3), (5, .int x5), (6, .int x6), (7, .int x7)] → b_X6_drain_40 N x1 x2 fu y3 x5 x6 x7 M = some (rr, M') → W p l e ({ frames := 7, cells := 0, slots := 0, locals := 161 } : Room) s m args below meth c H locs 0 0 (MQ below (va_Qi (fun (x : Int32) (_ : Unit) => x = rr) (fun _ t => PA D cy ad 100 21 A M' t) A) args s 0 0 A) (F0 m 40 ls []) := by
  obtain ⟨hx, hb, hml, hown, hts, hr, hlk, hK, hN, hA, hX⟩ := id C
  intro fu
  induction fu with
  | zero =>
    intro y3 x5 x6 x7 M H locs hP hD hS ls hl h
    exact no_some (show none = some _ from h)
  | succ fu ih =>
    intro y3 x5 x6 x7 M H locs hP hD hS ls hl h
    rw [b_X6_drain_40] at h
    refine lv_iload hx hb dX6_drain_40 (lv_at hl 6 rfl) ?_
    refine lv_bipush (v := 64) hx hb dX6_drain_42 (by decide) ?_
    refine lv_icmp_ge (tgt := 117) hx hb dX6_drain_44 (by decide) (fun c44 => ?_) (fun c44 => ?_)
    · replace h := it_t c44 h
      refine lv_aload_n hx hb dX6_drain_117 rfl (lv_at hl 0 rfl) ?_
      refine lv_lload_n hx hb dX6_drain_118 rfl (lv_at hl 3 rfl) ?_
      refine pf_6_6 C hP hD hS (iL (by decide)) (by decide) wd_888 dX6_drain_119 (fun H locs hP hD hS => ?_)
      exact w_X6_drain_122 C hP hD hS (lv_sub hl [2, 4, 5] rfl) h
    · replace h := it_f c44 h
      refine lv_lload_n hx hb dX6_drain_47 rfl (lv_at hl 3 rfl) ?_
      refine lv_iload hx hb dX6_drain_48 (lv_at hl 6 rfl) ?_
      refine lv_lshr (v := (y3 >>> (x7.toInt64 &&& 63))) hx hb dX6_drain_50 rfl ?_
      refine lv_lconst (v := 1) hx hb dX6_drain_51 (by decide) ?_
      refine lv_land hx hb dX6_drain_52 ?_
      refine lv_lconst (v := 1) hx hb dX6_drain_53 (by decide) ?_
      refine W.lcmp hx hb dX6_drain_54 ?_
      refine lv_if_ne (tgt := 111) hx hb dX6_drain_55 (by decide) (fun c55 => ?_) (fun c55 => ?_)
      · replace h := it_f c55 h
        exact w_X6_drain_111 C ih hP hD hS hl h
      · replace h := it_t c55 h
        refine lv_aload_n hx hb dX6_drain_58 rfl (lv_at hl 0 rfl) ?_
        refine lv_lload_n hx hb dX6_drain_59 rfl (lv_at hl 3 rfl) ?_
        refine lv_lconst (v := 1) hx hb dX6_drain_60 (by decide) ?_
        refine lv_iload hx hb dX6_drain_61 (lv_at hl 6 rfl) ?_
        refine lv_lshl (v := ((1 : Int64) <<< (x7.toInt64 &&& 63))) hx hb dX6_drain_63 rfl ?_
        refine lv_ldc2 hx hb hown (hts _ wd_1017) dX6_drain_64 ?_
        refine lv_lxor hx hb dX6_drain_67 ?_
        refine lv_land hx hb dX6_drain_68 ?_
        refine pf_6_6 C hP hD hS (iL (by decide)) (by decide) wd_888 dX6_drain_69 (fun H locs hP hD hS => ?_)
        exact w_X6_drain_72 C ih hP hD hS hl h
def b_X6_drain_0 (N : Nat) (x1 : Int32) (x2 : Int32) (M : Mem) : Option (Int32 × Mem) := (f_X6_in x1 (0 : Int32) (20 : Int32) M).bind fun r4 => (if r4 = true then (f_X6_in x2 (0 : Int32) (1 : Int32) M).bind fun r13 => (if r13 = true then bd2 (f_X6_milesBehind N x1 M) fun r32 M32 => b_X6_drain_40 N x1 x2 N (FJ M 100 6) (-1 : Int32) r32 (0 : Int32) M32 else some ((-2 : Int32), M)) else some ((-2 : Int32), M))
set_option maxHeartbeats 4000000 in
set_option maxRecDepth 100000 in
theorem w_X6_drain_0 (C : CX p s m args meth c cX6_drain 9 (some .int) RX6 D cy ad zz 100 21 A) {N : Nat} {M : Mem} {x1 : Int32} {x2 : Int32} {rr : Int32} {M' : Mem} {H : Heap} {locs : List Loc} (hP : va_P D vwCl (pool cy ad 100 21 M) H) (hD : va_D A (pool cy ad 100 21 M)) (hS : va_S A s.heap H locs) {ls : Array Slot} (hl : lv_has ls 9 [(0, .ref (ad 100)), (1, .int x1), (2, .int x2)]) (h : b_X6_drain_0 N x1 x2 M = some (rr, M')) : W p l e ({ frames := 7, cells := 0, slots := 0, locals := 161 } : Room) s m args below meth c H locs 0 0 (MQ below (va_Qi (fun (x : Int32) (_ : Unit) => x = rr) (fun _ t => PA D cy ad 100 21 A M' t) A) args s 0 0 A) (F0 m 0 ls []) := by
  obtain ⟨hx, hb, hml, hown, hts, hr, hlk, hK, hN, hA, hX⟩ := id C
  unfold b_X6_drain_0 at h
  refine lv_iload_n hx hb dX6_drain_0 rfl (lv_at hl 1 rfl) ?_
  refine lv_iconst (v := 0) hx hb dX6_drain_1 (by decide) ?_
  refine lv_bipush (v := 20) hx hb dX6_drain_2 (by decide) ?_
  obtain ⟨r4, g4, h⟩ := bd_of h
  refine call_iS (As := [.int x1, .int (0 : Int32), .int (20 : Int32)]) (rest := []) C hP hD hS (c_X6_in g4) (gS wd_843 wd_844 wd_75 wd_845) es_X6_in ⟨rfl, rfl⟩ ⟨Nat.le_of_ble_eq_true rfl, Nat.le_of_ble_eq_true rfl⟩ hl.1 rfl (Nat.le_of_ble_eq_true rfl) dX6_drain_4 (fun H locs hP hD hS => ?_)
  refine lv_if_eq (tgt := 19) hx hb dX6_drain_7 (by decide) (fun c7 => ?_) (fun c7 => ?_)
  · replace h := it_f (b2i_n c7) h
    refine lv_bipush (v := -2) hx hb dX6_drain_19 (by decide) ?_
    exact rt_i (r := (-2 : Int32)) C hP hD hS dX6_drain_21 (rw_end h)
  · replace h := it_t (b2i_1 c7) h
    refine lv_iload_n hx hb dX6_drain_10 rfl (lv_at hl 2 rfl) ?_
    refine lv_iconst (v := 0) hx hb dX6_drain_11 (by decide) ?_
    refine lv_iconst (v := 1) hx hb dX6_drain_12 (by decide) ?_
    obtain ⟨r13, g13, h⟩ := bd_of h
    refine call_iS (As := [.int x2, .int (0 : Int32), .int (1 : Int32)]) (rest := []) C hP hD hS (c_X6_in g13) (gS wd_843 wd_844 wd_75 wd_845) es_X6_in ⟨rfl, rfl⟩ ⟨Nat.le_of_ble_eq_true rfl, Nat.le_of_ble_eq_true rfl⟩ hl.1 rfl (Nat.le_of_ble_eq_true rfl) dX6_drain_13 (fun H locs hP hD hS => ?_)
    refine lv_if_ne (tgt := 22) hx hb dX6_drain_16 (by decide) (fun c16 => ?_) (fun c16 => ?_)
    · replace h := it_t (b2i_1 c16) h
      refine lv_aload_n hx hb dX6_drain_22 rfl (lv_at hl 0 rfl) ?_
      refine gf_6_6 C hP (iL (by decide)) (by decide) wd_888 dX6_drain_23 ?_
      refine lv_lstore_n (lv' := [(3, .long (FJ M 100 6)), (0, .ref (ad 100)), (1, .int x1), (2, .int x2)]) hx hb dX6_drain_26 rfl hl (by decide) rfl (fun ls hl => ?_)
      refine lv_iconst (v := -1) hx hb dX6_drain_27 (by decide) ?_
      refine lv_istore (lv' := [(5, .int (-1 : Int32)), (3, .long (FJ M 100 6)), (0, .ref (ad 100)), (1, .int x1), (2, .int x2)]) hx hb dX6_drain_28 hl (by decide) rfl (fun ls hl => ?_)
      refine lv_aload_n hx hb dX6_drain_30 rfl (lv_at hl 2 rfl) ?_
      refine lv_iload_n hx hb dX6_drain_31 rfl (lv_at hl 3 rfl) ?_
      obtain ⟨r32, M32, g32, h⟩ := bd2_of h
      refine call_iV (As := [.int x1]) (rest := []) C hP hD hS (c_X6_milesBehind g32) (iL (by decide)) ⟨6, _, _, ent_6 (by decide), rfl, rfl⟩ (gV wd_1176 wd_1178 wd_58 wd_75 wd_1179) ev_X6_milesBehind ⟨rfl, rfl⟩ ⟨Nat.le_of_ble_eq_true rfl, Nat.le_of_ble_eq_true rfl⟩ hl.1 rfl (Nat.le_of_ble_eq_true rfl) dX6_drain_32 (fun H locs hP hD hS => ?_)
      refine lv_istore (lv' := [(6, .int r32), (5, .int (-1 : Int32)), (3, .long (FJ M 100 6)), (0, .ref (ad 100)), (1, .int x1), (2, .int x2)]) hx hb dX6_drain_35 hl (by decide) rfl (fun ls hl => ?_)
      refine lv_iconst (v := 0) hx hb dX6_drain_37 (by decide) ?_
      refine lv_istore (lv' := [(7, .int (0 : Int32)), (6, .int r32), (5, .int (-1 : Int32)), (3, .long (FJ M 100 6)), (0, .ref (ad 100)), (1, .int x1), (2, .int x2)]) hx hb dX6_drain_38 hl (by decide) rfl (fun ls hl => ?_)
      exact w_X6_drain_40 C N _ _ _ _ _ _ _ hP hD hS _ (lv_sub hl [4, 5, 6, 3, 2, 1, 0] rfl) h
    · replace h := it_f (b2i_n c16) h
      refine lv_bipush (v := -2) hx hb dX6_drain_19 (by decide) ?_
      exact rt_i (r := (-2 : Int32)) C hP hD hS dX6_drain_21 (rw_end h)
def f_X6_drain (N : Nat) (x1 : Int32) (x2 : Int32) (M : Mem) : Option (Int32 × Mem) := b_X6_drain_0 N x1 x2 M
theorem c_X6_drain {l : Launch} {D : va_G} {cy : Nat → ClassId} {ad : Nat → Nat} {zz : (Nat → Nat) × (Nat → Nat)} {N : Nat} {x1 : Int32} {x2 : Int32} {M : Mem} {rr : Int32} {M' : Mem} (h : f_X6_drain N x1 x2 M = some (rr, M')) : CTi l D cy ad zz 100 21 yX6_drain (.code yX6_drain cX6_drain 9 (some .int) :: tb) ({ frames := 7, cells := 0, slots := 0, locals := 161 } : Room) [.ref (ad 100), .int x1, .int x2] M rr M' := by
  intro sz
  refine CX.of (by decide +kernel) (fun p e s m args below meth c H ls C hP hD hS hl => ?_) (Nat.le_of_ble_eq_true rfl)
  exact w_X6_drain_0 C hP hD hS hl h
theorem ev_X6_drain : yX6_drain.cls = RX6 ∧ yX6_drain.cls ≠ "java/lang/invoke/MethodHandle" ∧ yX6_drain.cls ≠ "java/lang/invoke/VarHandle" ∧ (parseMethodDescriptor yX6_drain.desc).map (fun d => d.parameters.length) = some 2 := by decide +kernel
end
