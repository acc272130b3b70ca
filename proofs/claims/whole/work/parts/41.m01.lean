section
variable {p : Program} {l : Launch} {e : Env} {s : State} {m : MethodId} {args : Array Value} {below : List Frame} {meth : Method} {c : Code} {D : va_G} {cy : Nat → ClassId} {ad : Nat → Nat} {zz : (Nat → Nat) × (Nat → Nat)} {A : Nat → Prop}
def b_X6_holds_10 (x1 : Int32) (M : Mem) : Option (Mem) := some (sFI M 100 28 ((FI M 100 28) + (1 : Int32)))
set_option maxHeartbeats 4000000 in
set_option maxRecDepth 100000 in
theorem w_X6_holds_10 (C : CX p s m args meth c cX6_holds 2 none RX6 D cy ad zz 100 21 A) {M : Mem} {x1 : Int32} {M' : Mem} {H : Heap} {locs : List Loc} (hP : va_P D vwCl (pool cy ad 100 21 M) H) (hD : va_D A (pool cy ad 100 21 M)) (hS : va_S A s.heap H locs) {ls : Array Slot} (hl : lv_has ls 2 [(0, .ref (ad 100))]) (h : b_X6_holds_10 x1 M = some M') : W p l e ({ frames := 0, cells := 0, slots := 0, locals := 0 } : Room) s m args below meth c H locs 0 0 (MQ below (va_Qv (fun (_ : Unit) => True) (fun _ t => PA D cy ad 100 21 A M' t) A) args s 0 0 A) (F0 m 10 ls []) := by
  obtain ⟨hx, hb, hml, hown, hts, hr, hlk, hK, hN, hA, hX⟩ := id C
  unfold b_X6_holds_10 at h
  refine lv_aload_n hx hb dX6_holds_10 rfl (lv_at hl 0 rfl) ?_
  refine lv_dup hx hb dX6_holds_11 rfl ?_
  refine gf_6_28 C hP (iL (by decide)) (by decide) wd_910 dX6_holds_12 ?_
  refine lv_iconst (v := 1) hx hb dX6_holds_15 (by decide) ?_
  refine lv_iadd hx hb dX6_holds_16 ?_
  refine pf_6_28 C hP hD hS (iL (by decide)) (by decide) wd_910 dX6_holds_17 (fun H locs hP hD hS => ?_)
  exact rt_v C hP hD hS dX6_holds_20 (Option.some.inj h)
def b_X6_holds_0 (x1 : Int32) (M : Mem) : Option (Mem) := gd (inb (FI M 100 28) (len 116)) (b_X6_holds_10 x1 (sAI M 116 (FI M 100 28).toNatClampNeg x1))
set_option maxHeartbeats 4000000 in
set_option maxRecDepth 100000 in
theorem w_X6_holds_0 (C : CX p s m args meth c cX6_holds 2 none RX6 D cy ad zz 100 21 A) {M : Mem} {x1 : Int32} {M' : Mem} {H : Heap} {locs : List Loc} (hP : va_P D vwCl (pool cy ad 100 21 M) H) (hD : va_D A (pool cy ad 100 21 M)) (hS : va_S A s.heap H locs) {ls : Array Slot} (hl : lv_has ls 2 [(0, .ref (ad 100)), (1, .int x1)]) (h : b_X6_holds_0 x1 M = some M') : W p l e ({ frames := 0, cells := 0, slots := 0, locals := 0 } : Room) s m args below meth c H locs 0 0 (MQ below (va_Qv (fun (_ : Unit) => True) (fun _ t => PA D cy ad 100 21 A M' t) A) args s 0 0 A) (F0 m 0 ls []) := by
  obtain ⟨hx, hb, hml, hown, hts, hr, hlk, hK, hN, hA, hX⟩ := id C
  unfold b_X6_holds_0 at h
  refine lv_aload_n hx hb dX6_holds_0 rfl (lv_at hl 0 rfl) ?_
  refine gf_6_27 C hP (iL (by decide)) (by decide) wd_909 dX6_holds_1 ?_
  refine lv_aload_n hx hb dX6_holds_4 rfl (lv_at hl 0 rfl) ?_
  refine gf_6_28 C hP (iL (by decide)) (by decide) wd_910 dX6_holds_5 ?_
  refine lv_iload_n hx hb dX6_holds_8 rfl (lv_at hl 1 rfl) ?_
  obtain ⟨gi1, h⟩ := gd_of h
  refine ia_st C hP hD hS (iL (by decide)) (by decide) gi1 dX6_holds_9 (fun H locs hP hD hS => ?_)
  exact w_X6_holds_10 C hP hD hS (lv_sub hl [0] rfl) h
def f_X6_holds (x1 : Int32) (M : Mem) : Option (Mem) := b_X6_holds_0 x1 M
theorem c_X6_holds {l : Launch} {D : va_G} {cy : Nat → ClassId} {ad : Nat → Nat} {zz : (Nat → Nat) × (Nat → Nat)} {x1 : Int32} {M : Mem} {M' : Mem} (h : f_X6_holds x1 M = some M') : CTv l D cy ad zz 100 21 yX6_holds (.code yX6_holds cX6_holds 2 none :: tb) ({ frames := 0, cells := 0, slots := 0, locals := 0 } : Room) [.ref (ad 100), .int x1] M M' := by
  intro sz
  refine CX.of (by decide +kernel) (fun p e s m args below meth c H ls C hP hD hS hl => ?_) (Nat.le_of_ble_eq_true rfl)
  exact w_X6_holds_0 C hP hD hS hl h
theorem ev_X6_holds : yX6_holds.cls = RX6 ∧ yX6_holds.cls ≠ "java/lang/invoke/MethodHandle" ∧ yX6_holds.cls ≠ "java/lang/invoke/VarHandle" ∧ (parseMethodDescriptor yX6_holds.desc).map (fun d => d.parameters.length) = some 1 := by decide +kernel
def b_X6_opensOne_20 (x1 : Int32) (M : Mem) : Option (Bool × Mem) := (f_X6_holds x1 M).bind fun M22 => some (true, M22)
set_option maxHeartbeats 4000000 in
set_option maxRecDepth 100000 in
theorem w_X6_opensOne_20 (C : CX p s m args meth c cX6_opensOne 2 (some .boolean) RX6 D cy ad zz 100 21 A) {M : Mem} {x1 : Int32} {rr : Bool} {M' : Mem} {H : Heap} {locs : List Loc} (hP : va_P D vwCl (pool cy ad 100 21 M) H) (hD : va_D A (pool cy ad 100 21 M)) (hS : va_S A s.heap H locs) {ls : Array Slot} (hl : lv_has ls 2 [(0, .ref (ad 100)), (1, .int x1)]) (h : b_X6_opensOne_20 x1 M = some (rr, M')) : W p l e ({ frames := 1, cells := 0, slots := 0, locals := 21 } : Room) s m args below meth c H locs 0 0 (MQ below (va_Qi (fun (x : Int32) (_ : Unit) => x = b2i rr) (fun _ t => PA D cy ad 100 21 A M' t) A) args s 0 0 A) (F0 m 20 ls []) := by
  obtain ⟨hx, hb, hml, hown, hts, hr, hlk, hK, hN, hA, hX⟩ := id C
  unfold b_X6_opensOne_20 at h
  refine lv_aload_n hx hb dX6_opensOne_20 rfl (lv_at hl 0 rfl) ?_
  refine lv_iload_n hx hb dX6_opensOne_21 rfl (lv_at hl 1 rfl) ?_
  obtain ⟨M22, g22, h⟩ := bd_of h
  refine call_vV (As := [.int x1]) (rest := []) C hP hD hS (c_X6_holds g22) (iL (by decide)) ⟨6, _, _, ent_6 (by decide), rfl, rfl⟩ (gV wd_870 wd_872 wd_35 wd_75 wd_873) ev_X6_holds ⟨rfl, rfl⟩ ⟨Nat.le_of_ble_eq_true rfl, Nat.le_of_ble_eq_true rfl⟩ hl.1 rfl (Nat.le_of_ble_eq_true rfl) dX6_opensOne_22 (fun H locs hP hD hS => ?_)
  refine lv_iconst (v := 1) hx hb dX6_opensOne_25 (by decide) ?_
  exact rt_z (r := true) C hP hD hS dX6_opensOne_26 (rw_end h)
def b_X6_opensOne_0 (x1 : Int32) (M : Mem) : Option (Bool × Mem) := (if (FI M 100 29) = (5 : Int32) then some (false, M) else b_X6_opensOne_20 x1 (sFI M 100 29 ((FI M 100 29) + (1 : Int32))))
set_option maxHeartbeats 4000000 in
set_option maxRecDepth 100000 in
theorem w_X6_opensOne_0 (C : CX p s m args meth c cX6_opensOne 2 (some .boolean) RX6 D cy ad zz 100 21 A) {M : Mem} {x1 : Int32} {rr : Bool} {M' : Mem} {H : Heap} {locs : List Loc} (hP : va_P D vwCl (pool cy ad 100 21 M) H) (hD : va_D A (pool cy ad 100 21 M)) (hS : va_S A s.heap H locs) {ls : Array Slot} (hl : lv_has ls 2 [(0, .ref (ad 100)), (1, .int x1)]) (h : b_X6_opensOne_0 x1 M = some (rr, M')) : W p l e ({ frames := 1, cells := 0, slots := 0, locals := 21 } : Room) s m args below meth c H locs 0 0 (MQ below (va_Qi (fun (x : Int32) (_ : Unit) => x = b2i rr) (fun _ t => PA D cy ad 100 21 A M' t) A) args s 0 0 A) (F0 m 0 ls []) := by
  obtain ⟨hx, hb, hml, hown, hts, hr, hlk, hK, hN, hA, hX⟩ := id C
  unfold b_X6_opensOne_0 at h
  refine lv_aload_n hx hb dX6_opensOne_0 rfl (lv_at hl 0 rfl) ?_
  refine gf_6_29 C hP (iL (by decide)) (by decide) wd_911 dX6_opensOne_1 ?_
  refine lv_iconst (v := 5) hx hb dX6_opensOne_4 (by decide) ?_
  refine lv_icmp_ne (tgt := 10) hx hb dX6_opensOne_5 (by decide) (fun c5 => ?_) (fun c5 => ?_)
  · replace h := it_f c5 h
    refine lv_aload_n hx hb dX6_opensOne_10 rfl (lv_at hl 0 rfl) ?_
    refine lv_dup hx hb dX6_opensOne_11 rfl ?_
    refine gf_6_29 C hP (iL (by decide)) (by decide) wd_911 dX6_opensOne_12 ?_
    refine lv_iconst (v := 1) hx hb dX6_opensOne_15 (by decide) ?_
    refine lv_iadd hx hb dX6_opensOne_16 ?_
    refine pf_6_29 C hP hD hS (iL (by decide)) (by decide) wd_911 dX6_opensOne_17 (fun H locs hP hD hS => ?_)
    exact w_X6_opensOne_20 C hP hD hS hl h
  · replace h := it_t c5 h
    refine lv_iconst (v := 0) hx hb dX6_opensOne_8 (by decide) ?_
    exact rt_z (r := false) C hP hD hS dX6_opensOne_9 (rw_end h)
def f_X6_opensOne (x1 : Int32) (M : Mem) : Option (Bool × Mem) := b_X6_opensOne_0 x1 M
theorem c_X6_opensOne {l : Launch} {D : va_G} {cy : Nat → ClassId} {ad : Nat → Nat} {zz : (Nat → Nat) × (Nat → Nat)} {x1 : Int32} {M : Mem} {rr : Bool} {M' : Mem} (h : f_X6_opensOne x1 M = some (rr, M')) : CTi l D cy ad zz 100 21 yX6_opensOne (.code yX6_opensOne cX6_opensOne 2 (some .boolean) :: tb) ({ frames := 1, cells := 0, slots := 0, locals := 21 } : Room) [.ref (ad 100), .int x1] M (b2i rr) M' := by
  intro sz
  refine CX.of (by decide +kernel) (fun p e s m args below meth c H ls C hP hD hS hl => ?_) (Nat.le_of_ble_eq_true rfl)
  exact w_X6_opensOne_0 C hP hD hS hl h
theorem ev_X6_opensOne : yX6_opensOne.cls = RX6 ∧ yX6_opensOne.cls ≠ "java/lang/invoke/MethodHandle" ∧ yX6_opensOne.cls ≠ "java/lang/invoke/VarHandle" ∧ (parseMethodDescriptor yX6_opensOne.desc).map (fun d => d.parameters.length) = some 1 := by decide +kernel
def b_X6_between_55 (N : Nat) (x1 : Int32) (M : Mem) : Option (Bool × Mem) := (f_X6_holds x1 M).bind fun M57 => some (true, M57)
set_option maxHeartbeats 4000000 in
set_option maxRecDepth 100000 in
theorem w_X6_between_55 (C : CX p s m args meth c cX6_between 2 (some .boolean) RX6 D cy ad zz 100 21 A) {N : Nat} {M : Mem} {x1 : Int32} {rr : Bool} {M' : Mem} {H : Heap} {locs : List Loc} (hP : va_P D vwCl (pool cy ad 100 21 M) H) (hD : va_D A (pool cy ad 100 21 M)) (hS : va_S A s.heap H locs) {ls : Array Slot} (hl : lv_has ls 2 [(0, .ref (ad 100)), (1, .int x1)]) (h : b_X6_between_55 N x1 M = some (rr, M')) : W p l e ({ frames := 2, cells := 0, slots := 0, locals := 43 } : Room) s m args below meth c H locs 0 0 (MQ below (va_Qi (fun (x : Int32) (_ : Unit) => x = b2i rr) (fun _ t => PA D cy ad 100 21 A M' t) A) args s 0 0 A) (F0 m 55 ls []) := by
  obtain ⟨hx, hb, hml, hown, hts, hr, hlk, hK, hN, hA, hX⟩ := id C
  unfold b_X6_between_55 at h
  refine lv_aload_n hx hb dX6_between_55 rfl (lv_at hl 0 rfl) ?_
  refine lv_iload_n hx hb dX6_between_56 rfl (lv_at hl 1 rfl) ?_
  obtain ⟨M57, g57, h⟩ := bd_of h
  refine call_vV (As := [.int x1]) (rest := []) C hP hD hS (c_X6_holds g57) (iL (by decide)) ⟨6, _, _, ent_6 (by decide), rfl, rfl⟩ (gV wd_870 wd_872 wd_35 wd_75 wd_873) ev_X6_holds ⟨rfl, rfl⟩ ⟨Nat.le_of_ble_eq_true rfl, Nat.le_of_ble_eq_true rfl⟩ hl.1 rfl (Nat.le_of_ble_eq_true rfl) dX6_between_57 (fun H locs hP hD hS => ?_)
  refine lv_iconst (v := 1) hx hb dX6_between_60 (by decide) ?_
  exact rt_z (r := true) C hP hD hS dX6_between_61 (rw_end h)
def b_X6_between_17 (N : Nat) (x1 : Int32) (t1 : Int32) (M : Mem) : Option (Bool × Mem) := (f_X6_unwinds N t1 M).bind fun M17 => (f_X6_rank x1 M17).bind fun r21 => (if r21 = (4 : Int32) then (if (FI M17 100 28) ≤ 0 then b_X6_between_55 N x1 M17 else gd (inb ((FI M17 100 28) - (1 : Int32)) (len 116)) ((f_X6_rank (AI M17 116 ((FI M17 100 28) - (1 : Int32)).toNatClampNeg) M17).bind fun r46 => (if r46 = (4 : Int32) then some (false, M17) else b_X6_between_55 N x1 M17))) else b_X6_between_55 N x1 M17)
set_option maxHeartbeats 4000000 in
set_option maxRecDepth 100000 in
theorem w_X6_between_17 (C : CX p s m args meth c cX6_between 2 (some .boolean) RX6 D cy ad zz 100 21 A) {N : Nat} {M : Mem} {x1 : Int32} {rr : Bool} {M' : Mem} {t1 : Int32} {H : Heap} {locs : List Loc} (hP : va_P D vwCl (pool cy ad 100 21 M) H) (hD : va_D A (pool cy ad 100 21 M)) (hS : va_S A s.heap H locs) {ls : Array Slot} (hl : lv_has ls 2 [(0, .ref (ad 100)), (1, .int x1)]) (h : b_X6_between_17 N x1 t1 M = some (rr, M')) : W p l e ({ frames := 2, cells := 0, slots := 0, locals := 43 } : Room) s m args below meth c H locs 0 0 (MQ below (va_Qi (fun (x : Int32) (_ : Unit) => x = b2i rr) (fun _ t => PA D cy ad 100 21 A M' t) A) args s 0 0 A) (F0 m 17 ls [.int t1, .ref (ad 100)]) := by
  obtain ⟨hx, hb, hml, hown, hts, hr, hlk, hK, hN, hA, hX⟩ := id C
  unfold b_X6_between_17 at h
  obtain ⟨M17, g17, h⟩ := bd_of h
  refine call_vV (As := [.int t1]) (rest := []) C hP hD hS (c_X6_unwinds g17) (iL (by decide)) ⟨6, _, _, ent_6 (by decide), rfl, rfl⟩ (gV wd_859 wd_861 wd_33 wd_75 wd_862) ev_X6_unwinds ⟨rfl, rfl⟩ ⟨Nat.le_of_ble_eq_true rfl, Nat.le_of_ble_eq_true rfl⟩ hl.1 rfl (Nat.le_of_ble_eq_true rfl) dX6_between_17 (fun H locs hP hD hS => ?_)
  refine lv_iload_n hx hb dX6_between_20 rfl (lv_at hl 1 rfl) ?_
  obtain ⟨r21, g21, h⟩ := bd_of h
  refine call_iS (As := [.int x1]) (rest := []) C hP hD hS (c_X6_rank g21) (gS wd_863 wd_864 wd_75 wd_865) es_X6_rank ⟨rfl, rfl⟩ ⟨Nat.le_of_ble_eq_true rfl, Nat.le_of_ble_eq_true rfl⟩ hl.1 rfl (Nat.le_of_ble_eq_true rfl) dX6_between_21 (fun H locs hP hD hS => ?_)
  refine lv_iconst (v := 4) hx hb dX6_between_24 (by decide) ?_
  refine lv_icmp_ne (tgt := 55) hx hb dX6_between_25 (by decide) (fun c25 => ?_) (fun c25 => ?_)
  · replace h := it_f c25 h
    exact w_X6_between_55 C hP hD hS hl h
  · replace h := it_t c25 h
    refine lv_aload_n hx hb dX6_between_28 rfl (lv_at hl 0 rfl) ?_
    refine gf_6_28 C hP (iL (by decide)) (by decide) wd_910 dX6_between_29 ?_
    refine lv_if_le (tgt := 55) hx hb dX6_between_32 (by decide) (fun c32 => ?_) (fun c32 => ?_)
    · replace h := it_t c32 h
      exact w_X6_between_55 C hP hD hS hl h
    · replace h := it_f c32 h
      refine lv_aload_n hx hb dX6_between_35 rfl (lv_at hl 0 rfl) ?_
      refine gf_6_27 C hP (iL (by decide)) (by decide) wd_909 dX6_between_36 ?_
      refine lv_aload_n hx hb dX6_between_39 rfl (lv_at hl 0 rfl) ?_
      refine gf_6_28 C hP (iL (by decide)) (by decide) wd_910 dX6_between_40 ?_
      refine lv_iconst (v := 1) hx hb dX6_between_43 (by decide) ?_
      refine lv_isub hx hb dX6_between_44 ?_
      obtain ⟨gi1, h⟩ := gd_of h
      refine ia_ld C hP (iL (by decide)) (by decide) gi1 dX6_between_45 ?_
      obtain ⟨r46, g46, h⟩ := bd_of h
      refine call_iS (As := [.int (AI M17 116 ((FI M17 100 28) - (1 : Int32)).toNatClampNeg)]) (rest := []) C hP hD hS (c_X6_rank g46) (gS wd_863 wd_864 wd_75 wd_865) es_X6_rank ⟨rfl, rfl⟩ ⟨Nat.le_of_ble_eq_true rfl, Nat.le_of_ble_eq_true rfl⟩ hl.1 rfl (Nat.le_of_ble_eq_true rfl) dX6_between_46 (fun H locs hP hD hS => ?_)
      refine lv_iconst (v := 4) hx hb dX6_between_49 (by decide) ?_
      refine lv_icmp_ne (tgt := 55) hx hb dX6_between_50 (by decide) (fun c50 => ?_) (fun c50 => ?_)
      · replace h := it_f c50 h
        exact w_X6_between_55 C hP hD hS hl h
      · replace h := it_t c50 h
        refine lv_iconst (v := 0) hx hb dX6_between_53 (by decide) ?_
        exact rt_z (r := false) C hP hD hS dX6_between_54 (rw_end h)
def b_X6_between_0 (N : Nat) (x1 : Int32) (M : Mem) : Option (Bool × Mem) := (f_X6_rank x1 M).bind fun r2 => (if r2 = (4 : Int32) then b_X6_between_17 N x1 (5 : Int32) M else (f_X6_rank x1 M).bind fun r14 => b_X6_between_17 N x1 r14 M)
set_option maxHeartbeats 4000000 in
set_option maxRecDepth 100000 in
theorem w_X6_between_0 (C : CX p s m args meth c cX6_between 2 (some .boolean) RX6 D cy ad zz 100 21 A) {N : Nat} {M : Mem} {x1 : Int32} {rr : Bool} {M' : Mem} {H : Heap} {locs : List Loc} (hP : va_P D vwCl (pool cy ad 100 21 M) H) (hD : va_D A (pool cy ad 100 21 M)) (hS : va_S A s.heap H locs) {ls : Array Slot} (hl : lv_has ls 2 [(0, .ref (ad 100)), (1, .int x1)]) (h : b_X6_between_0 N x1 M = some (rr, M')) : W p l e ({ frames := 2, cells := 0, slots := 0, locals := 43 } : Room) s m args below meth c H locs 0 0 (MQ below (va_Qi (fun (x : Int32) (_ : Unit) => x = b2i rr) (fun _ t => PA D cy ad 100 21 A M' t) A) args s 0 0 A) (F0 m 0 ls []) := by
  obtain ⟨hx, hb, hml, hown, hts, hr, hlk, hK, hN, hA, hX⟩ := id C
  unfold b_X6_between_0 at h
  refine lv_aload_n hx hb dX6_between_0 rfl (lv_at hl 0 rfl) ?_
  refine lv_iload_n hx hb dX6_between_1 rfl (lv_at hl 1 rfl) ?_
  obtain ⟨r2, g2, h⟩ := bd_of h
  refine call_iS (As := [.int x1]) (rest := [.ref (ad 100)]) C hP hD hS (c_X6_rank g2) (gS wd_863 wd_864 wd_75 wd_865) es_X6_rank ⟨rfl, rfl⟩ ⟨Nat.le_of_ble_eq_true rfl, Nat.le_of_ble_eq_true rfl⟩ hl.1 rfl (Nat.le_of_ble_eq_true rfl) dX6_between_2 (fun H locs hP hD hS => ?_)
  refine lv_iconst (v := 4) hx hb dX6_between_5 (by decide) ?_
  refine lv_icmp_ne (tgt := 13) hx hb dX6_between_6 (by decide) (fun c6 => ?_) (fun c6 => ?_)
  · replace h := it_f c6 h
    refine lv_iload_n hx hb dX6_between_13 rfl (lv_at hl 1 rfl) ?_
    obtain ⟨r14, g14, h⟩ := bd_of h
    refine call_iS (As := [.int x1]) (rest := [.ref (ad 100)]) C hP hD hS (c_X6_rank g14) (gS wd_863 wd_864 wd_75 wd_865) es_X6_rank ⟨rfl, rfl⟩ ⟨Nat.le_of_ble_eq_true rfl, Nat.le_of_ble_eq_true rfl⟩ hl.1 rfl (Nat.le_of_ble_eq_true rfl) dX6_between_14 (fun H locs hP hD hS => ?_)
    exact w_X6_between_17 C hP hD hS hl h
  · replace h := it_t c6 h
    refine lv_iconst (v := 5) hx hb dX6_between_9 (by decide) ?_
    refine lv_goto (tgt := 17) hx hb dX6_between_10 (by decide) ?_
    exact w_X6_between_17 C hP hD hS hl h
def f_X6_between (N : Nat) (x1 : Int32) (M : Mem) : Option (Bool × Mem) := b_X6_between_0 N x1 M
theorem c_X6_between {l : Launch} {D : va_G} {cy : Nat → ClassId} {ad : Nat → Nat} {zz : (Nat → Nat) × (Nat → Nat)} {N : Nat} {x1 : Int32} {M : Mem} {rr : Bool} {M' : Mem} (h : f_X6_between N x1 M = some (rr, M')) : CTi l D cy ad zz 100 21 yX6_between (.code yX6_between cX6_between 2 (some .boolean) :: tb) ({ frames := 2, cells := 0, slots := 0, locals := 43 } : Room) [.ref (ad 100), .int x1] M (b2i rr) M' := by
  intro sz
  refine CX.of (by decide +kernel) (fun p e s m args below meth c H ls C hP hD hS hl => ?_) (Nat.le_of_ble_eq_true rfl)
  exact w_X6_between_0 C hP hD hS hl h
theorem ev_X6_between : yX6_between.cls = RX6 ∧ yX6_between.cls ≠ "java/lang/invoke/MethodHandle" ∧ yX6_between.cls ≠ "java/lang/invoke/VarHandle" ∧ (parseMethodDescriptor yX6_between.desc).map (fun d => d.parameters.length) = some 1 := by decide +kernel
def b_X6_signOf_0 (M : Mem) : Option (Int32) := (if (FI M 100 24) = (4 : Int32) then some (11 : Int32) else (if (FI M 100 24) = (5 : Int32) then some (12 : Int32) else (if (FI M 100 24) = (60 : Int32) then some (14 : Int32) else (if (FI M 100 24) = (61 : Int32) then some (15 : Int32) else (if (FI M 100 24) = (43 : Int32) then some (16 : Int32) else (if (FI M 100 24) = (45 : Int32) then some (17 : Int32) else (if (FI M 100 24) = (42 : Int32) then some (18 : Int32) else some (-1 : Int32))))))))
set_option maxHeartbeats 4000000 in
set_option maxRecDepth 100000 in
theorem w_X6_signOf_0 (C : CX p s m args meth c cX6_signOf 1 (some .int) RX6 D cy ad zz 100 21 A) {M : Mem} {rr : Int32} {H : Heap} {locs : List Loc} (hP : va_P D vwCl (pool cy ad 100 21 M) H) (hD : va_D A (pool cy ad 100 21 M)) (hS : va_S A s.heap H locs) {ls : Array Slot} (hl : lv_has ls 1 [(0, .ref (ad 100))]) (h : b_X6_signOf_0 M = some rr) : W p l e ({ frames := 0, cells := 0, slots := 0, locals := 0 } : Room) s m args below meth c H locs 0 0 (MQ below (va_Qi (fun (x : Int32) (_ : Unit) => x = rr) (fun _ t => PA D cy ad 100 21 A M t) A) args s 0 0 A) (F0 m 0 ls []) := by
  obtain ⟨hx, hb, hml, hown, hts, hr, hlk, hK, hN, hA, hX⟩ := id C
  unfold b_X6_signOf_0 at h
  refine lv_aload_n hx hb dX6_signOf_0 rfl (lv_at hl 0 rfl) ?_
  refine gf_6_24 C hP (iL (by decide)) (by decide) wd_906 dX6_signOf_1 ?_
  refine lv_iconst (v := 4) hx hb dX6_signOf_4 (by decide) ?_
  refine lv_icmp_ne (tgt := 13) hx hb dX6_signOf_5 (by decide) (fun c5 => ?_) (fun c5 => ?_)
  · replace h := it_f c5 h
    refine lv_aload_n hx hb dX6_signOf_13 rfl (lv_at hl 0 rfl) ?_
    refine gf_6_24 C hP (iL (by decide)) (by decide) wd_906 dX6_signOf_14 ?_
    refine lv_iconst (v := 5) hx hb dX6_signOf_17 (by decide) ?_
    refine lv_icmp_ne (tgt := 26) hx hb dX6_signOf_18 (by decide) (fun c18 => ?_) (fun c18 => ?_)
    · replace h := it_f c18 h
      refine lv_aload_n hx hb dX6_signOf_26 rfl (lv_at hl 0 rfl) ?_
      refine gf_6_24 C hP (iL (by decide)) (by decide) wd_906 dX6_signOf_27 ?_
      refine lv_bipush (v := 60) hx hb dX6_signOf_30 (by decide) ?_
      refine lv_icmp_ne (tgt := 40) hx hb dX6_signOf_32 (by decide) (fun c32 => ?_) (fun c32 => ?_)
      · replace h := it_f c32 h
        refine lv_aload_n hx hb dX6_signOf_40 rfl (lv_at hl 0 rfl) ?_
        refine gf_6_24 C hP (iL (by decide)) (by decide) wd_906 dX6_signOf_41 ?_
        refine lv_bipush (v := 61) hx hb dX6_signOf_44 (by decide) ?_
        refine lv_icmp_ne (tgt := 54) hx hb dX6_signOf_46 (by decide) (fun c46 => ?_) (fun c46 => ?_)
        · replace h := it_f c46 h
          refine lv_aload_n hx hb dX6_signOf_54 rfl (lv_at hl 0 rfl) ?_
          refine gf_6_24 C hP (iL (by decide)) (by decide) wd_906 dX6_signOf_55 ?_
          refine lv_bipush (v := 43) hx hb dX6_signOf_58 (by decide) ?_
          refine lv_icmp_ne (tgt := 68) hx hb dX6_signOf_60 (by decide) (fun c60 => ?_) (fun c60 => ?_)
          · replace h := it_f c60 h
            refine lv_aload_n hx hb dX6_signOf_68 rfl (lv_at hl 0 rfl) ?_
            refine gf_6_24 C hP (iL (by decide)) (by decide) wd_906 dX6_signOf_69 ?_
            refine lv_bipush (v := 45) hx hb dX6_signOf_72 (by decide) ?_
            refine lv_icmp_ne (tgt := 82) hx hb dX6_signOf_74 (by decide) (fun c74 => ?_) (fun c74 => ?_)
            · replace h := it_f c74 h
              refine lv_aload_n hx hb dX6_signOf_82 rfl (lv_at hl 0 rfl) ?_
              refine gf_6_24 C hP (iL (by decide)) (by decide) wd_906 dX6_signOf_83 ?_
              refine lv_bipush (v := 42) hx hb dX6_signOf_86 (by decide) ?_
              refine lv_icmp_ne (tgt := 96) hx hb dX6_signOf_88 (by decide) (fun c88 => ?_) (fun c88 => ?_)
              · replace h := it_f c88 h
                refine lv_iconst (v := -1) hx hb dX6_signOf_96 (by decide) ?_
                exact rt_i (r := (-1 : Int32)) C hP hD hS dX6_signOf_97 ⟨Option.some.inj h, rfl⟩
              · replace h := it_t c88 h
                refine lv_bipush (v := 18) hx hb dX6_signOf_91 (by decide) ?_
                refine lv_goto (tgt := 97) hx hb dX6_signOf_93 (by decide) ?_
                exact rt_i (r := (18 : Int32)) C hP hD hS dX6_signOf_97 ⟨Option.some.inj h, rfl⟩
            · replace h := it_t c74 h
              refine lv_bipush (v := 17) hx hb dX6_signOf_77 (by decide) ?_
              refine lv_goto (tgt := 97) hx hb dX6_signOf_79 (by decide) ?_
              exact rt_i (r := (17 : Int32)) C hP hD hS dX6_signOf_97 ⟨Option.some.inj h, rfl⟩
          · replace h := it_t c60 h
            refine lv_bipush (v := 16) hx hb dX6_signOf_63 (by decide) ?_
            refine lv_goto (tgt := 97) hx hb dX6_signOf_65 (by decide) ?_
            exact rt_i (r := (16 : Int32)) C hP hD hS dX6_signOf_97 ⟨Option.some.inj h, rfl⟩
        · replace h := it_t c46 h
          refine lv_bipush (v := 15) hx hb dX6_signOf_49 (by decide) ?_
          refine lv_goto (tgt := 97) hx hb dX6_signOf_51 (by decide) ?_
          exact rt_i (r := (15 : Int32)) C hP hD hS dX6_signOf_97 ⟨Option.some.inj h, rfl⟩
      · replace h := it_t c32 h
        refine lv_bipush (v := 14) hx hb dX6_signOf_35 (by decide) ?_
        refine lv_goto (tgt := 97) hx hb dX6_signOf_37 (by decide) ?_
        exact rt_i (r := (14 : Int32)) C hP hD hS dX6_signOf_97 ⟨Option.some.inj h, rfl⟩
    · replace h := it_t c18 h
      refine lv_bipush (v := 12) hx hb dX6_signOf_21 (by decide) ?_
      refine lv_goto (tgt := 97) hx hb dX6_signOf_23 (by decide) ?_
      exact rt_i (r := (12 : Int32)) C hP hD hS dX6_signOf_97 ⟨Option.some.inj h, rfl⟩
  · replace h := it_t c5 h
    refine lv_bipush (v := 11) hx hb dX6_signOf_8 (by decide) ?_
    refine lv_goto (tgt := 97) hx hb dX6_signOf_10 (by decide) ?_
    exact rt_i (r := (11 : Int32)) C hP hD hS dX6_signOf_97 ⟨Option.some.inj h, rfl⟩
def f_X6_signOf (M : Mem) : Option (Int32) := b_X6_signOf_0 M
theorem c_X6_signOf {l : Launch} {D : va_G} {cy : Nat → ClassId} {ad : Nat → Nat} {zz : (Nat → Nat) × (Nat → Nat)} {M : Mem} {rr : Int32} (h : f_X6_signOf M = some rr) : CTi l D cy ad zz 100 21 yX6_signOf (.code yX6_signOf cX6_signOf 1 (some .int) :: tb) ({ frames := 0, cells := 0, slots := 0, locals := 0 } : Room) [.ref (ad 100)] M rr M := by
  intro sz
  refine CX.of (by decide +kernel) (fun p e s m args below meth c H ls C hP hD hS hl => ?_) (Nat.le_of_ble_eq_true rfl)
  exact w_X6_signOf_0 C hP hD hS hl h
theorem ev_X6_signOf : yX6_signOf.cls = RX6 ∧ yX6_signOf.cls ≠ "java/lang/invoke/MethodHandle" ∧ yX6_signOf.cls ≠ "java/lang/invoke/VarHandle" ∧ (parseMethodDescriptor yX6_signOf.desc).map (fun d => d.parameters.length) = some 0 := by decide +kernel
def b_X6_eRead_262 (N : Nat) (k14 : Int32 → Int32 → Mem → Option (Bool × Mem)) (x1 : Int32) (t0 : Int32) (M : Mem) : Option (Bool × Mem) := k14 x1 t0 M
set_option maxHeartbeats 4000000 in
set_option maxRecDepth 100000 in
theorem w_X6_eRead_262 (C : CX p s m args meth c cX6_eRead 4 (some .boolean) RX6 D cy ad zz 100 21 A) {N : Nat} {M : Mem} {k14 : Int32 → Int32 → Mem → Option (Bool × Mem)} {rr : Bool} {M' : Mem} (hk14 : ∀ (x1 : Int32), ∀ (x2 : Int32), ∀ (M : Mem), ∀ (H : Heap) (locs : List Loc), va_P D vwCl (pool cy ad 100 21 M) H → va_D A (pool cy ad 100 21 M) → va_S A s.heap H locs → ∀ (ls : Array Slot), lv_has ls 4 [(0, .ref (ad 100)), (1, .int x1), (2, .int x2)] → k14 x1 x2 M = some (rr, M') → W p l e ({ frames := 3, cells := 0, slots := 0, locals := 64 } : Room) s m args below meth c H locs 0 0 (MQ below (va_Qi (fun (x : Int32) (_ : Unit) => x = b2i rr) (fun _ t => PA D cy ad 100 21 A M' t) A) args s 0 0 A) (F0 m 14 ls [])) {x1 : Int32} {t0 : Int32} {H : Heap} {locs : List Loc} (hP : va_P D vwCl (pool cy ad 100 21 M) H) (hD : va_D A (pool cy ad 100 21 M)) (hS : va_S A s.heap H locs) {ls : Array Slot} (hl : lv_has ls 4 [(0, .ref (ad 100)), (1, .int x1)]) (h : b_X6_eRead_262 N k14 x1 t0 M = some (rr, M')) : W p l e ({ frames := 3, cells := 0, slots := 0, locals := 64 } : Room) s m args below meth c H locs 0 0 (MQ below (va_Qi (fun (x : Int32) (_ : Unit) => x = b2i rr) (fun _ t => PA D cy ad 100 21 A M' t) A) args s 0 0 A) (F0 m 262 ls [.int t0]) := by
  obtain ⟨hx, hb, hml, hown, hts, hr, hlk, hK, hN, hA, hX⟩ := id C
  unfold b_X6_eRead_262 at h
  refine lv_istore_n (lv' := [(2, .int t0), (0, .ref (ad 100)), (1, .int x1)]) hx hb dX6_eRead_262 rfl hl (by decide) rfl (fun ls hl => ?_)
  refine lv_goto (tgt := 14) hx hb dX6_eRead_263 (by decide) ?_
  exact hk14 _ _ _ _ _ hP hD hS _ (lv_sub hl [1, 2, 0] rfl) h
def b_X6_eRead_220 (N : Nat) (k14 : Int32 → Int32 → Mem → Option (Bool × Mem)) (x1 : Int32) (x2 : Int32) (M : Mem) : Option (Bool × Mem) := (f_X6_unwinds N (7 : Int32) M).bind fun M223 => k14 x1 x2 M223
set_option maxHeartbeats 4000000 in
set_option maxRecDepth 100000 in
theorem w_X6_eRead_220 (C : CX p s m args meth c cX6_eRead 4 (some .boolean) RX6 D cy ad zz 100 21 A) {N : Nat} {M : Mem} {k14 : Int32 → Int32 → Mem → Option (Bool × Mem)} {rr : Bool} {M' : Mem} (hk14 : ∀ (x1 : Int32), ∀ (x2 : Int32), ∀ (M : Mem), ∀ (H : Heap) (locs : List Loc), va_P D vwCl (pool cy ad 100 21 M) H → va_D A (pool cy ad 100 21 M) → va_S A s.heap H locs → ∀ (ls : Array Slot), lv_has ls 4 [(0, .ref (ad 100)), (1, .int x1), (2, .int x2)] → k14 x1 x2 M = some (rr, M') → W p l e ({ frames := 3, cells := 0, slots := 0, locals := 64 } : Room) s m args below meth c H locs 0 0 (MQ below (va_Qi (fun (x : Int32) (_ : Unit) => x = b2i rr) (fun _ t => PA D cy ad 100 21 A M' t) A) args s 0 0 A) (F0 m 14 ls [])) {x1 : Int32} {x2 : Int32} {H : Heap} {locs : List Loc} (hP : va_P D vwCl (pool cy ad 100 21 M) H) (hD : va_D A (pool cy ad 100 21 M)) (hS : va_S A s.heap H locs) {ls : Array Slot} (hl : lv_has ls 4 [(0, .ref (ad 100)), (1, .int x1), (2, .int x2)]) (h : b_X6_eRead_220 N k14 x1 x2 M = some (rr, M')) : W p l e ({ frames := 3, cells := 0, slots := 0, locals := 64 } : Room) s m args below meth c H locs 0 0 (MQ below (va_Qi (fun (x : Int32) (_ : Unit) => x = b2i rr) (fun _ t => PA D cy ad 100 21 A M' t) A) args s 0 0 A) (F0 m 220 ls []) := by
  obtain ⟨hx, hb, hml, hown, hts, hr, hlk, hK, hN, hA, hX⟩ := id C
  unfold b_X6_eRead_220 at h
  refine lv_aload_n hx hb dX6_eRead_220 rfl (lv_at hl 0 rfl) ?_
  refine lv_bipush (v := 7) hx hb dX6_eRead_221 (by decide) ?_
  obtain ⟨M223, g223, h⟩ := bd_of h
  refine call_vV (As := [.int (7 : Int32)]) (rest := []) C hP hD hS (c_X6_unwinds g223) (iL (by decide)) ⟨6, _, _, ent_6 (by decide), rfl, rfl⟩ (gV wd_859 wd_861 wd_33 wd_75 wd_862) ev_X6_unwinds ⟨rfl, rfl⟩ ⟨Nat.le_of_ble_eq_true rfl, Nat.le_of_ble_eq_true rfl⟩ hl.1 rfl (Nat.le_of_ble_eq_true rfl) dX6_eRead_223 (fun H locs hP hD hS => ?_)
  refine lv_goto (tgt := 14) hx hb dX6_eRead_226 (by decide) ?_
  exact hk14 _ _ _ _ _ hP hD hS _ hl h
def b_X6_eRead_210 (N : Nat) (k14 : Int32 → Int32 → Mem → Option (Bool × Mem)) (x1 : Int32) (x2 : Int32) (M : Mem) : Option (Bool × Mem) := b_X6_eRead_220 N k14 x1 x2 (sFI M 100 29 ((FI M 100 29) - (1 : Int32)))
set_option maxHeartbeats 4000000 in
set_option maxRecDepth 100000 in
theorem w_X6_eRead_210 (C : CX p s m args meth c cX6_eRead 4 (some .boolean) RX6 D cy ad zz 100 21 A) {N : Nat} {M : Mem} {k14 : Int32 → Int32 → Mem → Option (Bool × Mem)} {rr : Bool} {M' : Mem} (hk14 : ∀ (x1 : Int32), ∀ (x2 : Int32), ∀ (M : Mem), ∀ (H : Heap) (locs : List Loc), va_P D vwCl (pool cy ad 100 21 M) H → va_D A (pool cy ad 100 21 M) → va_S A s.heap H locs → ∀ (ls : Array Slot), lv_has ls 4 [(0, .ref (ad 100)), (1, .int x1), (2, .int x2)] → k14 x1 x2 M = some (rr, M') → W p l e ({ frames := 3, cells := 0, slots := 0, locals := 64 } : Room) s m args below meth c H locs 0 0 (MQ below (va_Qi (fun (x : Int32) (_ : Unit) => x = b2i rr) (fun _ t => PA D cy ad 100 21 A M' t) A) args s 0 0 A) (F0 m 14 ls [])) {x1 : Int32} {x2 : Int32} {H : Heap} {locs : List Loc} (hP : va_P D vwCl (pool cy ad 100 21 M) H) (hD : va_D A (pool cy ad 100 21 M)) (hS : va_S A s.heap H locs) {ls : Array Slot} (hl : lv_has ls 4 [(0, .ref (ad 100)), (1, .int x1), (2, .int x2)]) (h : b_X6_eRead_210 N k14 x1 x2 M = some (rr, M')) : W p l e ({ frames := 3, cells := 0, slots := 0, locals := 64 } : Room) s m args below meth c H locs 0 0 (MQ below (va_Qi (fun (x : Int32) (_ : Unit) => x = b2i rr) (fun _ t => PA D cy ad 100 21 A M' t) A) args s 0 0 A) (F0 m 210 ls []) := by
  obtain ⟨hx, hb, hml, hown, hts, hr, hlk, hK, hN, hA, hX⟩ := id C
  unfold b_X6_eRead_210 at h
  refine lv_aload_n hx hb dX6_eRead_210 rfl (lv_at hl 0 rfl) ?_
  refine lv_dup hx hb dX6_eRead_211 rfl ?_
  refine gf_6_29 C hP (iL (by decide)) (by decide) wd_911 dX6_eRead_212 ?_
  refine lv_iconst (v := 1) hx hb dX6_eRead_215 (by decide) ?_
  refine lv_isub hx hb dX6_eRead_216 ?_
  refine pf_6_29 C hP hD hS (iL (by decide)) (by decide) wd_911 dX6_eRead_217 (fun H locs hP hD hS => ?_)
  exact w_X6_eRead_220 C hk14 hP hD hS hl h
def b_X6_eRead_61 (N : Nat) (k14 : Int32 → Int32 → Mem → Option (Bool × Mem)) (x2 : Int32) (t1 : Int32) (M : Mem) : Option (Bool × Mem) := (f_X6_puts t1 M).bind fun M61 => (f_X6_unwinds N (7 : Int32) M61).bind fun M67 => k14 (0 : Int32) x2 M67
set_option maxHeartbeats 4000000 in
set_option maxRecDepth 100000 in
theorem w_X6_eRead_61 (C : CX p s m args meth c cX6_eRead 4 (some .boolean) RX6 D cy ad zz 100 21 A) {N : Nat} {M : Mem} {k14 : Int32 → Int32 → Mem → Option (Bool × Mem)} {rr : Bool} {M' : Mem} (hk14 : ∀ (x1 : Int32), ∀ (x2 : Int32), ∀ (M : Mem), ∀ (H : Heap) (locs : List Loc), va_P D vwCl (pool cy ad 100 21 M) H → va_D A (pool cy ad 100 21 M) → va_S A s.heap H locs → ∀ (ls : Array Slot), lv_has ls 4 [(0, .ref (ad 100)), (1, .int x1), (2, .int x2)] → k14 x1 x2 M = some (rr, M') → W p l e ({ frames := 3, cells := 0, slots := 0, locals := 64 } : Room) s m args below meth c H locs 0 0 (MQ below (va_Qi (fun (x : Int32) (_ : Unit) => x = b2i rr) (fun _ t => PA D cy ad 100 21 A M' t) A) args s 0 0 A) (F0 m 14 ls [])) {x2 : Int32} {t1 : Int32} {H : Heap} {locs : List Loc} (hP : va_P D vwCl (pool cy ad 100 21 M) H) (hD : va_D A (pool cy ad 100 21 M)) (hS : va_S A s.heap H locs) {ls : Array Slot} (hl : lv_has ls 4 [(0, .ref (ad 100)), (2, .int x2)]) (h : b_X6_eRead_61 N k14 x2 t1 M = some (rr, M')) : W p l e ({ frames := 3, cells := 0, slots := 0, locals := 64 } : Room) s m args below meth c H locs 0 0 (MQ below (va_Qi (fun (x : Int32) (_ : Unit) => x = b2i rr) (fun _ t => PA D cy ad 100 21 A M' t) A) args s 0 0 A) (F0 m 61 ls [.int t1, .ref (ad 100)]) := by
  obtain ⟨hx, hb, hml, hown, hts, hr, hlk, hK, hN, hA, hX⟩ := id C
  unfold b_X6_eRead_61 at h
  obtain ⟨M61, g61, h⟩ := bd_of h
  refine call_vV (As := [.int t1]) (rest := []) C hP hD hS (c_X6_puts g61) (iL (by decide)) ⟨6, _, _, ent_6 (by decide), rfl, rfl⟩ (gV wd_855 wd_857 wd_32 wd_75 wd_858) ev_X6_puts ⟨rfl, rfl⟩ ⟨Nat.le_of_ble_eq_true rfl, Nat.le_of_ble_eq_true rfl⟩ hl.1 rfl (Nat.le_of_ble_eq_true rfl) dX6_eRead_61 (fun H locs hP hD hS => ?_)
  refine lv_aload_n hx hb dX6_eRead_64 rfl (lv_at hl 0 rfl) ?_
  refine lv_bipush (v := 7) hx hb dX6_eRead_65 (by decide) ?_
  obtain ⟨M67, g67, h⟩ := bd_of h
  refine call_vV (As := [.int (7 : Int32)]) (rest := []) C hP hD hS (c_X6_unwinds g67) (iL (by decide)) ⟨6, _, _, ent_6 (by decide), rfl, rfl⟩ (gV wd_859 wd_861 wd_33 wd_75 wd_862) ev_X6_unwinds ⟨rfl, rfl⟩ ⟨Nat.le_of_ble_eq_true rfl, Nat.le_of_ble_eq_true rfl⟩ hl.1 rfl (Nat.le_of_ble_eq_true rfl) dX6_eRead_67 (fun H locs hP hD hS => ?_)
  refine lv_iconst (v := 0) hx hb dX6_eRead_70 (by decide) ?_
  refine lv_istore_n (lv' := [(1, .int (0 : Int32)), (0, .ref (ad 100)), (2, .int x2)]) hx hb dX6_eRead_71 rfl hl (by decide) rfl (fun ls hl => ?_)
  refine lv_goto (tgt := 14) hx hb dX6_eRead_72 (by decide) ?_
  exact hk14 _ _ _ _ _ hP hD hS _ (lv_sub hl [1, 0, 2] rfl) h
def b_X6_eRead_38 (N : Nat) (k14 : Int32 → Int32 → Mem → Option (Bool × Mem)) (x2 : Int32) (M : Mem) : Option (Bool × Mem) := (if (FI M 100 24) = (1 : Int32) then b_X6_eRead_61 N k14 x2 ((100000 : Int32) + (FI M 100 25)) M else b_X6_eRead_61 N k14 x2 (FI M 100 25) M)
set_option maxHeartbeats 4000000 in
set_option maxRecDepth 100000 in
theorem w_X6_eRead_38 (C : CX p s m args meth c cX6_eRead 4 (some .boolean) RX6 D cy ad zz 100 21 A) {N : Nat} {M : Mem} {k14 : Int32 → Int32 → Mem → Option (Bool × Mem)} {rr : Bool} {M' : Mem} (hk14 : ∀ (x1 : Int32), ∀ (x2 : Int32), ∀ (M : Mem), ∀ (H : Heap) (locs : List Loc), va_P D vwCl (pool cy ad 100 21 M) H → va_D A (pool cy ad 100 21 M) → va_S A s.heap H locs → ∀ (ls : Array Slot), lv_has ls 4 [(0, .ref (ad 100)), (1, .int x1), (2, .int x2)] → k14 x1 x2 M = some (rr, M') → W p l e ({ frames := 3, cells := 0, slots := 0, locals := 64 } : Room) s m args below meth c H locs 0 0 (MQ below (va_Qi (fun (x : Int32) (_ : Unit) => x = b2i rr) (fun _ t => PA D cy ad 100 21 A M' t) A) args s 0 0 A) (F0 m 14 ls [])) {x2 : Int32} {H : Heap} {locs : List Loc} (hP : va_P D vwCl (pool cy ad 100 21 M) H) (hD : va_D A (pool cy ad 100 21 M)) (hS : va_S A s.heap H locs) {ls : Array Slot} (hl : lv_has ls 4 [(0, .ref (ad 100)), (2, .int x2)]) (h : b_X6_eRead_38 N k14 x2 M = some (rr, M')) : W p l e ({ frames := 3, cells := 0, slots := 0, locals := 64 } : Room) s m args below meth c H locs 0 0 (MQ below (va_Qi (fun (x : Int32) (_ : Unit) => x = b2i rr) (fun _ t => PA D cy ad 100 21 A M' t) A) args s 0 0 A) (F0 m 38 ls []) := by
  obtain ⟨hx, hb, hml, hown, hts, hr, hlk, hK, hN, hA, hX⟩ := id C
  unfold b_X6_eRead_38 at h
  refine lv_aload_n hx hb dX6_eRead_38 rfl (lv_at hl 0 rfl) ?_
  refine lv_aload_n hx hb dX6_eRead_39 rfl (lv_at hl 0 rfl) ?_
  refine gf_6_24 C hP (iL (by decide)) (by decide) wd_906 dX6_eRead_40 ?_
  refine lv_iconst (v := 1) hx hb dX6_eRead_43 (by decide) ?_
  refine lv_icmp_ne (tgt := 57) hx hb dX6_eRead_44 (by decide) (fun c44 => ?_) (fun c44 => ?_)
  · replace h := it_f c44 h
    refine lv_aload_n hx hb dX6_eRead_57 rfl (lv_at hl 0 rfl) ?_
    refine gf_6_25 C hP (iL (by decide)) (by decide) wd_907 dX6_eRead_58 ?_
    exact w_X6_eRead_61 C hk14 hP hD hS hl h
  · replace h := it_t c44 h
    refine lv_ldc hx hb hown (hts _ wd_854) dX6_eRead_47 ?_
    refine lv_aload_n hx hb dX6_eRead_49 rfl (lv_at hl 0 rfl) ?_
    refine gf_6_25 C hP (iL (by decide)) (by decide) wd_907 dX6_eRead_50 ?_
    refine lv_iadd hx hb dX6_eRead_53 ?_
    refine lv_goto (tgt := 61) hx hb dX6_eRead_54 (by decide) ?_
    exact w_X6_eRead_61 C hk14 hP hD hS hl h
def b_X6_eRead_99 (N : Nat) (k14 : Int32 → Int32 → Mem → Option (Bool × Mem)) (x1 : Int32) (M : Mem) : Option (Bool × Mem) := (if (FI M 100 24) = (45 : Int32) then bd2 (f_X6_opensOne (19 : Int32) M) fun r111 M111 => (if r111 = true then k14 x1 (0 : Int32) M111 else some (false, M111)) else (if (FI M 100 24) = (40 : Int32) then bd2 (f_X6_opensOne (0 : Int32) M) fun r135 M135 => (if r135 = true then k14 x1 (1 : Int32) M135 else some (false, M135)) else some (false, M)))
set_option maxHeartbeats 4000000 in
set_option maxRecDepth 100000 in
theorem w_X6_eRead_99 (C : CX p s m args meth c cX6_eRead 4 (some .boolean) RX6 D cy ad zz 100 21 A) {N : Nat} {M : Mem} {k14 : Int32 → Int32 → Mem → Option (Bool × Mem)} {rr : Bool} {M' : Mem} (hk14 : ∀ (x1 : Int32), ∀ (x2 : Int32), ∀ (M : Mem), ∀ (H : Heap) (locs : List Loc), va_P D vwCl (pool cy ad 100 21 M) H → va_D A (pool cy ad 100 21 M) → va_S A s.heap H locs → ∀ (ls : Array Slot), lv_has ls 4 [(0, .ref (ad 100)), (1, .int x1), (2, .int x2)] → k14 x1 x2 M = some (rr, M') → W p l e ({ frames := 3, cells := 0, slots := 0, locals := 64 } : Room) s m args below meth c H locs 0 0 (MQ below (va_Qi (fun (x : Int32) (_ : Unit) => x = b2i rr) (fun _ t => PA D cy ad 100 21 A M' t) A) args s 0 0 A) (F0 m 14 ls [])) {x1 : Int32} {H : Heap} {locs : List Loc} (hP : va_P D vwCl (pool cy ad 100 21 M) H) (hD : va_D A (pool cy ad 100 21 M)) (hS : va_S A s.heap H locs) {ls : Array Slot} (hl : lv_has ls 4 [(0, .ref (ad 100)), (1, .int x1)]) (h : b_X6_eRead_99 N k14 x1 M = some (rr, M')) : W p l e ({ frames := 3, cells := 0, slots := 0, locals := 64 } : Room) s m args below meth c H locs 0 0 (MQ below (va_Qi (fun (x : Int32) (_ : Unit) => x = b2i rr) (fun _ t => PA D cy ad 100 21 A M' t) A) args s 0 0 A) (F0 m 99 ls []) := by
  obtain ⟨hx, hb, hml, hown, hts, hr, hlk, hK, hN, hA, hX⟩ := id C
  unfold b_X6_eRead_99 at h
  refine lv_aload_n hx hb dX6_eRead_99 rfl (lv_at hl 0 rfl) ?_
  refine gf_6_24 C hP (iL (by decide)) (by decide) wd_906 dX6_eRead_100 ?_
  refine lv_bipush (v := 45) hx hb dX6_eRead_103 (by decide) ?_
  refine lv_icmp_ne (tgt := 124) hx hb dX6_eRead_105 (by decide) (fun c105 => ?_) (fun c105 => ?_)
  · replace h := it_f c105 h
    refine lv_aload_n hx hb dX6_eRead_124 rfl (lv_at hl 0 rfl) ?_
    refine gf_6_24 C hP (iL (by decide)) (by decide) wd_906 dX6_eRead_125 ?_
    refine lv_bipush (v := 40) hx hb dX6_eRead_128 (by decide) ?_
    refine lv_icmp_ne (tgt := 148) hx hb dX6_eRead_130 (by decide) (fun c130 => ?_) (fun c130 => ?_)
    · replace h := it_f c130 h
      refine lv_iconst (v := 0) hx hb dX6_eRead_148 (by decide) ?_
      exact rt_z (r := false) C hP hD hS dX6_eRead_149 (rw_end h)
    · replace h := it_t c130 h
      refine lv_aload_n hx hb dX6_eRead_133 rfl (lv_at hl 0 rfl) ?_
      refine lv_iconst (v := 0) hx hb dX6_eRead_134 (by decide) ?_
      obtain ⟨r135, M135, g135, h⟩ := bd2_of h
      refine call_iV (As := [.int (0 : Int32)]) (rest := []) C hP hD hS (c_X6_opensOne g135) (iL (by decide)) ⟨6, _, _, ent_6 (by decide), rfl, rfl⟩ (gV wd_866 wd_868 wd_34 wd_75 wd_869) ev_X6_opensOne ⟨rfl, rfl⟩ ⟨Nat.le_of_ble_eq_true rfl, Nat.le_of_ble_eq_true rfl⟩ hl.1 rfl (Nat.le_of_ble_eq_true rfl) dX6_eRead_135 (fun H locs hP hD hS => ?_)
      refine lv_if_ne (tgt := 143) hx hb dX6_eRead_138 (by decide) (fun c138 => ?_) (fun c138 => ?_)
      · replace h := it_t (b2i_1 c138) h
        refine lv_iconst (v := 1) hx hb dX6_eRead_143 (by decide) ?_
        refine lv_istore_n (lv' := [(2, .int (1 : Int32)), (0, .ref (ad 100)), (1, .int x1)]) hx hb dX6_eRead_144 rfl hl (by decide) rfl (fun ls hl => ?_)
        refine lv_goto (tgt := 14) hx hb dX6_eRead_145 (by decide) ?_
        exact hk14 _ _ _ _ _ hP hD hS _ (lv_sub hl [1, 2, 0] rfl) h
      · replace h := it_f (b2i_n c138) h
        refine lv_iconst (v := 0) hx hb dX6_eRead_141 (by decide) ?_
        exact rt_z (r := false) C hP hD hS dX6_eRead_142 (rw_end h)
  · replace h := it_t c105 h
    refine lv_aload_n hx hb dX6_eRead_108 rfl (lv_at hl 0 rfl) ?_
    refine lv_bipush (v := 19) hx hb dX6_eRead_109 (by decide) ?_
    obtain ⟨r111, M111, g111, h⟩ := bd2_of h
    refine call_iV (As := [.int (19 : Int32)]) (rest := []) C hP hD hS (c_X6_opensOne g111) (iL (by decide)) ⟨6, _, _, ent_6 (by decide), rfl, rfl⟩ (gV wd_866 wd_868 wd_34 wd_75 wd_869) ev_X6_opensOne ⟨rfl, rfl⟩ ⟨Nat.le_of_ble_eq_true rfl, Nat.le_of_ble_eq_true rfl⟩ hl.1 rfl (Nat.le_of_ble_eq_true rfl) dX6_eRead_111 (fun H locs hP hD hS => ?_)
    refine lv_if_ne (tgt := 119) hx hb dX6_eRead_114 (by decide) (fun c114 => ?_) (fun c114 => ?_)
    · replace h := it_t (b2i_1 c114) h
      refine lv_iconst (v := 0) hx hb dX6_eRead_119 (by decide) ?_
      refine lv_istore_n (lv' := [(2, .int (0 : Int32)), (0, .ref (ad 100)), (1, .int x1)]) hx hb dX6_eRead_120 rfl hl (by decide) rfl (fun ls hl => ?_)
      refine lv_goto (tgt := 14) hx hb dX6_eRead_121 (by decide) ?_
      exact hk14 _ _ _ _ _ hP hD hS _ (lv_sub hl [1, 2, 0] rfl) h
    · replace h := it_f (b2i_n c114) h
      refine lv_iconst (v := 0) hx hb dX6_eRead_117 (by decide) ?_
      exact rt_z (r := false) C hP hD hS dX6_eRead_118 (rw_end h)
def b_X6_eRead_14 (N : Nat) : Nat → Int32 → Int32 → Mem → Option (Bool × Mem)
  | 0, _, _, _ => none
  | fu + 1, x1, x2, M => (f_X6_next N M).bind fun M15 => (if x1 = 0 then (if (FI M15 100 24) = (59 : Int32) then (f_X6_unwinds N (1 : Int32) M15).bind fun M161 => (if (FI M161 100 28) = 0 then some (true, M161) else some (false, M161)) else (if (FI M15 100 24) = (41 : Int32) then (f_X6_unwinds N (1 : Int32) M15).bind fun M188 => (if (FI M188 100 28) = 0 then some (false, M188) else b_X6_eRead_210 N (b_X6_eRead_14 N fu) x1 x2 (sFI M188 100 28 ((FI M188 100 28) - (1 : Int32)))) else (f_X6_signOf M15).bind fun r230 => (if r230 = (-1 : Int32) then some (false, M15) else bd2 (f_X6_between N r230 M15) fun r241 M241 => (if r241 = true then (if (12 : Int32) < r230 then b_X6_eRead_262 N (b_X6_eRead_14 N fu) (1 : Int32) (0 : Int32) M241 else b_X6_eRead_262 N (b_X6_eRead_14 N fu) (1 : Int32) (1 : Int32) M241) else some (false, M241))))) else (if (FI M15 100 24) = (1 : Int32) then b_X6_eRead_38 N (b_X6_eRead_14 N fu) x2 M15 else (if (FI M15 100 24) = (2 : Int32) then b_X6_eRead_38 N (b_X6_eRead_14 N fu) x2 M15 else (if (FI M15 100 24) = (6 : Int32) then (if x2 = 0 then b_X6_eRead_99 N (b_X6_eRead_14 N fu) x1 M15 else bd2 (f_X6_opensOne (13 : Int32) M15) fun r91 M91 => (if r91 = true then b_X6_eRead_14 N fu x1 x2 M91 else some (false, M91))) else b_X6_eRead_99 N (b_X6_eRead_14 N fu) x1 M15))))
set_option maxHeartbeats 4000000 in
set_option maxRecDepth 100000 in
theorem w_X6_eRead_14 (C : CX p s m args meth c cX6_eRead 4 (some .boolean) RX6 D cy ad zz 100 21 A) {N : Nat} {rr : Bool} {M' : Mem}  : ∀ (fu : Nat), ∀ (x1 : Int32), ∀ (x2 : Int32), ∀ (M : Mem), ∀ (H : Heap) (locs : List Loc), va_P D vwCl (pool cy ad 100 21 M) H → va_D A (pool cy ad 100 21 M) → va_S A s.heap H locs → ∀ (ls : Array Slot), lv_has ls 4 [(0, .ref (ad 100)), (1, .int x1), (2, .int x2)] → b_X6_eRead_14 N fu x1 x2 M = some (rr, M') → W p l e ({ frames := 3, cells := 0, slots := 0, locals := 64 } : Room) s m args below meth c H locs 0 0 (MQ below (va_Qi (fun (x : Int32) (_ : Unit) => x = b2i rr) (fun _ t => PA D cy ad 100 21 A M' t) A) args s 0 0 A) (F0 m 14 ls []) := by
  obtain ⟨hx, hb, hml, hown, hts, hr, hlk, hK, hN, hA, hX⟩ := id C
  intro fu
  induction fu with
  | zero =>
    intro x1 x2 M H locs hP hD hS ls hl h
    exact no_some (show none = some _ from h)
  | succ fu ih =>
    intro x1 x2 M H locs hP hD hS ls hl h
    rw [b_X6_eRead_14] at h
    refine lv_aload_n hx hb dX6_eRead_14 rfl (lv_at hl 0 rfl) ?_
    obtain ⟨M15, g15, h⟩ := bd_of h
    refine call_vV (As := []) (rest := []) C hP hD hS (c_X6_next g15) (iL (by decide)) ⟨6, _, _, ent_6 (by decide), rfl, rfl⟩ (gV wd_839 wd_841 wd_29 wd_75 wd_842) ev_X6_next ⟨rfl, rfl⟩ ⟨Nat.le_of_ble_eq_true rfl, Nat.le_of_ble_eq_true rfl⟩ hl.1 rfl (Nat.le_of_ble_eq_true rfl) dX6_eRead_15 (fun H locs hP hD hS => ?_)
    refine lv_iload_n hx hb dX6_eRead_18 rfl (lv_at hl 1 rfl) ?_
    refine lv_if_eq (tgt := 150) hx hb dX6_eRead_19 (by decide) (fun c19 => ?_) (fun c19 => ?_)
    · replace h := it_t c19 h
      refine lv_aload_n hx hb dX6_eRead_150 rfl (lv_at hl 0 rfl) ?_
      refine gf_6_24 C hP (iL (by decide)) (by decide) wd_906 dX6_eRead_151 ?_
      refine lv_bipush (v := 59) hx hb dX6_eRead_154 (by decide) ?_
      refine lv_icmp_ne (tgt := 177) hx hb dX6_eRead_156 (by decide) (fun c156 => ?_) (fun c156 => ?_)
      · replace h := it_f c156 h
        refine lv_aload_n hx hb dX6_eRead_177 rfl (lv_at hl 0 rfl) ?_
        refine gf_6_24 C hP (iL (by decide)) (by decide) wd_906 dX6_eRead_178 ?_
        refine lv_bipush (v := 41) hx hb dX6_eRead_181 (by decide) ?_
        refine lv_icmp_ne (tgt := 229) hx hb dX6_eRead_183 (by decide) (fun c183 => ?_) (fun c183 => ?_)
        · replace h := it_f c183 h
          refine lv_aload_n hx hb dX6_eRead_229 rfl (lv_at hl 0 rfl) ?_
          obtain ⟨r230, g230, h⟩ := bd_of h
          refine call_iV (As := []) (rest := []) C hP hD hS (c_X6_signOf g230) (iL (by decide)) ⟨6, _, _, ent_6 (by decide), rfl, rfl⟩ (gV wd_874 wd_876 wd_36 wd_75 wd_877) ev_X6_signOf ⟨rfl, rfl⟩ ⟨Nat.le_of_ble_eq_true rfl, Nat.le_of_ble_eq_true rfl⟩ hl.1 rfl (Nat.le_of_ble_eq_true rfl) dX6_eRead_230 (fun H locs hP hD hS => ?_)
          refine lv_istore_n (lv' := [(3, .int r230), (0, .ref (ad 100)), (1, .int x1), (2, .int x2)]) hx hb dX6_eRead_233 rfl hl (by decide) rfl (fun ls hl => ?_)
          refine lv_iload_n hx hb dX6_eRead_234 rfl (lv_at hl 0 rfl) ?_
          refine lv_iconst (v := -1) hx hb dX6_eRead_235 (by decide) ?_
          refine lv_icmp_eq (tgt := 247) hx hb dX6_eRead_236 (by decide) (fun c236 => ?_) (fun c236 => ?_)
          · replace h := it_t c236 h
            refine lv_iconst (v := 0) hx hb dX6_eRead_247 (by decide) ?_
            exact rt_z (r := false) C hP hD hS dX6_eRead_248 (rw_end h)
          · replace h := it_f c236 h
            refine lv_aload_n hx hb dX6_eRead_239 rfl (lv_at hl 1 rfl) ?_
            refine lv_iload_n hx hb dX6_eRead_240 rfl (lv_at hl 0 rfl) ?_
            obtain ⟨r241, M241, g241, h⟩ := bd2_of h
            refine call_iV (As := [.int r230]) (rest := []) C hP hD hS (c_X6_between g241) (iL (by decide)) ⟨6, _, _, ent_6 (by decide), rfl, rfl⟩ (gV wd_878 wd_880 wd_37 wd_75 wd_881) ev_X6_between ⟨rfl, rfl⟩ ⟨Nat.le_of_ble_eq_true rfl, Nat.le_of_ble_eq_true rfl⟩ hl.1 rfl (Nat.le_of_ble_eq_true rfl) dX6_eRead_241 (fun H locs hP hD hS => ?_)
            refine lv_if_ne (tgt := 249) hx hb dX6_eRead_244 (by decide) (fun c244 => ?_) (fun c244 => ?_)
            · replace h := it_t (b2i_1 c244) h
              refine lv_iconst (v := 1) hx hb dX6_eRead_249 (by decide) ?_
              refine lv_istore_n (lv' := [(1, .int (1 : Int32)), (3, .int r230), (0, .ref (ad 100)), (2, .int x2)]) hx hb dX6_eRead_250 rfl hl (by decide) rfl (fun ls hl => ?_)
              refine lv_iload_n hx hb dX6_eRead_251 rfl (lv_at hl 1 rfl) ?_
              refine lv_bipush (v := 12) hx hb dX6_eRead_252 (by decide) ?_
              refine lv_icmp_gt (tgt := 261) hx hb dX6_eRead_254 (by decide) (fun c254 => ?_) (fun c254 => ?_)
              · replace h := it_t c254 h
                refine lv_iconst (v := 0) hx hb dX6_eRead_261 (by decide) ?_
                exact w_X6_eRead_262 C ih hP hD hS (lv_sub hl [2, 0] rfl) h
              · replace h := it_f c254 h
                refine lv_iconst (v := 1) hx hb dX6_eRead_257 (by decide) ?_
                refine lv_goto (tgt := 262) hx hb dX6_eRead_258 (by decide) ?_
                exact w_X6_eRead_262 C ih hP hD hS (lv_sub hl [2, 0] rfl) h
            · replace h := it_f (b2i_n c244) h
              refine lv_iconst (v := 0) hx hb dX6_eRead_247 (by decide) ?_
              exact rt_z (r := false) C hP hD hS dX6_eRead_248 (rw_end h)
        · replace h := it_t c183 h
          refine lv_aload_n hx hb dX6_eRead_186 rfl (lv_at hl 0 rfl) ?_
          refine lv_iconst (v := 1) hx hb dX6_eRead_187 (by decide) ?_
          obtain ⟨M188, g188, h⟩ := bd_of h
          refine call_vV (As := [.int (1 : Int32)]) (rest := []) C hP hD hS (c_X6_unwinds g188) (iL (by decide)) ⟨6, _, _, ent_6 (by decide), rfl, rfl⟩ (gV wd_859 wd_861 wd_33 wd_75 wd_862) ev_X6_unwinds ⟨rfl, rfl⟩ ⟨Nat.le_of_ble_eq_true rfl, Nat.le_of_ble_eq_true rfl⟩ hl.1 rfl (Nat.le_of_ble_eq_true rfl) dX6_eRead_188 (fun H locs hP hD hS => ?_)
          refine lv_aload_n hx hb dX6_eRead_191 rfl (lv_at hl 0 rfl) ?_
          refine gf_6_28 C hP (iL (by decide)) (by decide) wd_910 dX6_eRead_192 ?_
          refine lv_if_ne (tgt := 200) hx hb dX6_eRead_195 (by decide) (fun c195 => ?_) (fun c195 => ?_)
          · replace h := it_f c195 h
            refine lv_aload_n hx hb dX6_eRead_200 rfl (lv_at hl 0 rfl) ?_
            refine lv_dup hx hb dX6_eRead_201 rfl ?_
            refine gf_6_28 C hP (iL (by decide)) (by decide) wd_910 dX6_eRead_202 ?_
            refine lv_iconst (v := 1) hx hb dX6_eRead_205 (by decide) ?_
            refine lv_isub hx hb dX6_eRead_206 ?_
            refine pf_6_28 C hP hD hS (iL (by decide)) (by decide) wd_910 dX6_eRead_207 (fun H locs hP hD hS => ?_)
            exact w_X6_eRead_210 C ih hP hD hS hl h
          · replace h := it_t c195 h
            refine lv_iconst (v := 0) hx hb dX6_eRead_198 (by decide) ?_
            exact rt_z (r := false) C hP hD hS dX6_eRead_199 (rw_end h)
      · replace h := it_t c156 h
        refine lv_aload_n hx hb dX6_eRead_159 rfl (lv_at hl 0 rfl) ?_
        refine lv_iconst (v := 1) hx hb dX6_eRead_160 (by decide) ?_
        obtain ⟨M161, g161, h⟩ := bd_of h
        refine call_vV (As := [.int (1 : Int32)]) (rest := []) C hP hD hS (c_X6_unwinds g161) (iL (by decide)) ⟨6, _, _, ent_6 (by decide), rfl, rfl⟩ (gV wd_859 wd_861 wd_33 wd_75 wd_862) ev_X6_unwinds ⟨rfl, rfl⟩ ⟨Nat.le_of_ble_eq_true rfl, Nat.le_of_ble_eq_true rfl⟩ hl.1 rfl (Nat.le_of_ble_eq_true rfl) dX6_eRead_161 (fun H locs hP hD hS => ?_)
        refine lv_aload_n hx hb dX6_eRead_164 rfl (lv_at hl 0 rfl) ?_
        refine gf_6_28 C hP (iL (by decide)) (by decide) wd_910 dX6_eRead_165 ?_
        refine lv_if_ne (tgt := 175) hx hb dX6_eRead_168 (by decide) (fun c168 => ?_) (fun c168 => ?_)
        · replace h := it_f c168 h
          refine lv_iconst (v := 0) hx hb dX6_eRead_175 (by decide) ?_
          exact rt_z (r := false) C hP hD hS dX6_eRead_176 (rw_end h)
        · replace h := it_t c168 h
          refine lv_iconst (v := 1) hx hb dX6_eRead_171 (by decide) ?_
          refine lv_goto (tgt := 176) hx hb dX6_eRead_172 (by decide) ?_
          exact rt_z (r := true) C hP hD hS dX6_eRead_176 (rw_end h)
    · replace h := it_f c19 h
      refine lv_aload_n hx hb dX6_eRead_22 rfl (lv_at hl 0 rfl) ?_
      refine gf_6_24 C hP (iL (by decide)) (by decide) wd_906 dX6_eRead_23 ?_
      refine lv_iconst (v := 1) hx hb dX6_eRead_26 (by decide) ?_
      refine lv_icmp_eq (tgt := 38) hx hb dX6_eRead_27 (by decide) (fun c27 => ?_) (fun c27 => ?_)
      · replace h := it_t c27 h
        exact w_X6_eRead_38 C ih hP hD hS (lv_sub hl [0, 2] rfl) h
      · replace h := it_f c27 h
        refine lv_aload_n hx hb dX6_eRead_30 rfl (lv_at hl 0 rfl) ?_
        refine gf_6_24 C hP (iL (by decide)) (by decide) wd_906 dX6_eRead_31 ?_
        refine lv_iconst (v := 2) hx hb dX6_eRead_34 (by decide) ?_
        refine lv_icmp_ne (tgt := 75) hx hb dX6_eRead_35 (by decide) (fun c35 => ?_) (fun c35 => ?_)
        · replace h := it_f c35 h
          refine lv_aload_n hx hb dX6_eRead_75 rfl (lv_at hl 0 rfl) ?_
          refine gf_6_24 C hP (iL (by decide)) (by decide) wd_906 dX6_eRead_76 ?_
          refine lv_bipush (v := 6) hx hb dX6_eRead_79 (by decide) ?_
          refine lv_icmp_ne (tgt := 99) hx hb dX6_eRead_81 (by decide) (fun c81 => ?_) (fun c81 => ?_)
          · replace h := it_f c81 h
            exact w_X6_eRead_99 C ih hP hD hS (lv_sub hl [0, 1] rfl) h
          · replace h := it_t c81 h
            refine lv_iload_n hx hb dX6_eRead_84 rfl (lv_at hl 2 rfl) ?_
            refine lv_if_eq (tgt := 99) hx hb dX6_eRead_85 (by decide) (fun c85 => ?_) (fun c85 => ?_)
            · replace h := it_t c85 h
              exact w_X6_eRead_99 C ih hP hD hS (lv_sub hl [0, 1] rfl) h
            · replace h := it_f c85 h
              refine lv_aload_n hx hb dX6_eRead_88 rfl (lv_at hl 0 rfl) ?_
              refine lv_bipush (v := 13) hx hb dX6_eRead_89 (by decide) ?_
              obtain ⟨r91, M91, g91, h⟩ := bd2_of h
              refine call_iV (As := [.int (13 : Int32)]) (rest := []) C hP hD hS (c_X6_opensOne g91) (iL (by decide)) ⟨6, _, _, ent_6 (by decide), rfl, rfl⟩ (gV wd_866 wd_868 wd_34 wd_75 wd_869) ev_X6_opensOne ⟨rfl, rfl⟩ ⟨Nat.le_of_ble_eq_true rfl, Nat.le_of_ble_eq_true rfl⟩ hl.1 rfl (Nat.le_of_ble_eq_true rfl) dX6_eRead_91 (fun H locs hP hD hS => ?_)
              refine lv_if_ne (tgt := 14) hx hb dX6_eRead_94 (by decide) (fun c94 => ?_) (fun c94 => ?_)
              · replace h := it_t (b2i_1 c94) h
                exact ih _ _ _ _ _ hP hD hS _ hl h
              · replace h := it_f (b2i_n c94) h
                refine lv_iconst (v := 0) hx hb dX6_eRead_97 (by decide) ?_
                exact rt_z (r := false) C hP hD hS dX6_eRead_98 (rw_end h)
        · replace h := it_t c35 h
          exact w_X6_eRead_38 C ih hP hD hS (lv_sub hl [0, 2] rfl) h
def b_X6_eRead_10 (N : Nat) (M : Mem) : Option (Bool × Mem) := b_X6_eRead_14 N N (1 : Int32) (1 : Int32) M
set_option maxHeartbeats 4000000 in
set_option maxRecDepth 100000 in
theorem w_X6_eRead_10 (C : CX p s m args meth c cX6_eRead 4 (some .boolean) RX6 D cy ad zz 100 21 A) {N : Nat} {M : Mem} {rr : Bool} {M' : Mem} {H : Heap} {locs : List Loc} (hP : va_P D vwCl (pool cy ad 100 21 M) H) (hD : va_D A (pool cy ad 100 21 M)) (hS : va_S A s.heap H locs) {ls : Array Slot} (hl : lv_has ls 4 [(0, .ref (ad 100))]) (h : b_X6_eRead_10 N M = some (rr, M')) : W p l e ({ frames := 3, cells := 0, slots := 0, locals := 64 } : Room) s m args below meth c H locs 0 0 (MQ below (va_Qi (fun (x : Int32) (_ : Unit) => x = b2i rr) (fun _ t => PA D cy ad 100 21 A M' t) A) args s 0 0 A) (F0 m 10 ls []) := by
  obtain ⟨hx, hb, hml, hown, hts, hr, hlk, hK, hN, hA, hX⟩ := id C
  unfold b_X6_eRead_10 at h
  refine lv_iconst (v := 1) hx hb dX6_eRead_10 (by decide) ?_
  refine lv_istore_n (lv' := [(1, .int (1 : Int32)), (0, .ref (ad 100))]) hx hb dX6_eRead_11 rfl hl (by decide) rfl (fun ls hl => ?_)
  refine lv_iconst (v := 1) hx hb dX6_eRead_12 (by decide) ?_
  refine lv_istore_n (lv' := [(2, .int (1 : Int32)), (1, .int (1 : Int32)), (0, .ref (ad 100))]) hx hb dX6_eRead_13 rfl hl (by decide) rfl (fun ls hl => ?_)
  exact w_X6_eRead_14 C N _ _ _ _ _ hP hD hS _ (lv_sub hl [2, 1, 0] rfl) h
def b_X6_eRead_5 (N : Nat) (M : Mem) : Option (Bool × Mem) := b_X6_eRead_10 N (sFI M 100 29 (0 : Int32))
set_option maxHeartbeats 4000000 in
set_option maxRecDepth 100000 in
theorem w_X6_eRead_5 (C : CX p s m args meth c cX6_eRead 4 (some .boolean) RX6 D cy ad zz 100 21 A) {N : Nat} {M : Mem} {rr : Bool} {M' : Mem} {H : Heap} {locs : List Loc} (hP : va_P D vwCl (pool cy ad 100 21 M) H) (hD : va_D A (pool cy ad 100 21 M)) (hS : va_S A s.heap H locs) {ls : Array Slot} (hl : lv_has ls 4 [(0, .ref (ad 100))]) (h : b_X6_eRead_5 N M = some (rr, M')) : W p l e ({ frames := 3, cells := 0, slots := 0, locals := 64 } : Room) s m args below meth c H locs 0 0 (MQ below (va_Qi (fun (x : Int32) (_ : Unit) => x = b2i rr) (fun _ t => PA D cy ad 100 21 A M' t) A) args s 0 0 A) (F0 m 5 ls []) := by
  obtain ⟨hx, hb, hml, hown, hts, hr, hlk, hK, hN, hA, hX⟩ := id C
  unfold b_X6_eRead_5 at h
  refine lv_aload_n hx hb dX6_eRead_5 rfl (lv_at hl 0 rfl) ?_
  refine lv_iconst (v := 0) hx hb dX6_eRead_6 (by decide) ?_
  refine pf_6_29 C hP hD hS (iL (by decide)) (by decide) wd_911 dX6_eRead_7 (fun H locs hP hD hS => ?_)
  exact w_X6_eRead_10 C hP hD hS hl h
def b_X6_eRead_0 (N : Nat) (M : Mem) : Option (Bool × Mem) := b_X6_eRead_5 N (sFI M 100 28 (0 : Int32))
set_option maxHeartbeats 4000000 in
set_option maxRecDepth 100000 in
theorem w_X6_eRead_0 (C : CX p s m args meth c cX6_eRead 4 (some .boolean) RX6 D cy ad zz 100 21 A) {N : Nat} {M : Mem} {rr : Bool} {M' : Mem} {H : Heap} {locs : List Loc} (hP : va_P D vwCl (pool cy ad 100 21 M) H) (hD : va_D A (pool cy ad 100 21 M)) (hS : va_S A s.heap H locs) {ls : Array Slot} (hl : lv_has ls 4 [(0, .ref (ad 100))]) (h : b_X6_eRead_0 N M = some (rr, M')) : W p l e ({ frames := 3, cells := 0, slots := 0, locals := 64 } : Room) s m args below meth c H locs 0 0 (MQ below (va_Qi (fun (x : Int32) (_ : Unit) => x = b2i rr) (fun _ t => PA D cy ad 100 21 A M' t) A) args s 0 0 A) (F0 m 0 ls []) := by
  obtain ⟨hx, hb, hml, hown, hts, hr, hlk, hK, hN, hA, hX⟩ := id C
  unfold b_X6_eRead_0 at h
  refine lv_aload_n hx hb dX6_eRead_0 rfl (lv_at hl 0 rfl) ?_
  refine lv_iconst (v := 0) hx hb dX6_eRead_1 (by decide) ?_
  refine pf_6_28 C hP hD hS (iL (by decide)) (by decide) wd_910 dX6_eRead_2 (fun H locs hP hD hS => ?_)
  exact w_X6_eRead_5 C hP hD hS hl h
def f_X6_eRead (N : Nat) (M : Mem) : Option (Bool × Mem) := b_X6_eRead_0 N M
theorem c_X6_eRead {l : Launch} {D : va_G} {cy : Nat → ClassId} {ad : Nat → Nat} {zz : (Nat → Nat) × (Nat → Nat)} {N : Nat} {M : Mem} {rr : Bool} {M' : Mem} (h : f_X6_eRead N M = some (rr, M')) : CTi l D cy ad zz 100 21 yX6_eRead (.code yX6_eRead cX6_eRead 4 (some .boolean) :: tb) ({ frames := 3, cells := 0, slots := 0, locals := 64 } : Room) [.ref (ad 100)] M (b2i rr) M' := by
  intro sz
  refine CX.of (by decide +kernel) (fun p e s m args below meth c H ls C hP hD hS hl => ?_) (Nat.le_of_ble_eq_true rfl)
  exact w_X6_eRead_0 C hP hD hS hl h
theorem ev_X6_eRead : yX6_eRead.cls = RX6 ∧ yX6_eRead.cls ≠ "java/lang/invoke/MethodHandle" ∧ yX6_eRead.cls ≠ "java/lang/invoke/VarHandle" ∧ (parseMethodDescriptor yX6_eRead.desc).map (fun d => d.parameters.length) = some 0 := by decide +kernel
def b_X6_text_166 (N : Nat) (M : Mem) : Option (Int32 × Mem) := some (((FI M 100 12) - (1 : Int32)), M)
set_option maxHeartbeats 4000000 in
set_option maxRecDepth 100000 in
theorem w_X6_text_166 (C : CX p s m args meth c cX6_text 3 (some .int) RX6 D cy ad zz 100 21 A) {N : Nat} {M : Mem} {rr : Int32} {M' : Mem} {H : Heap} {locs : List Loc} (hP : va_P D vwCl (pool cy ad 100 21 M) H) (hD : va_D A (pool cy ad 100 21 M)) (hS : va_S A s.heap H locs) {ls : Array Slot} (hl : lv_has ls 3 [(0, .ref (ad 100))]) (h : b_X6_text_166 N M = some (rr, M')) : W p l e ({ frames := 4, cells := 0, slots := 0, locals := 87 } : Room) s m args below meth c H locs 0 0 (MQ below (va_Qi (fun (x : Int32) (_ : Unit) => x = rr) (fun _ t => PA D cy ad 100 21 A M' t) A) args s 0 0 A) (F0 m 166 ls []) := by
  obtain ⟨hx, hb, hml, hown, hts, hr, hlk, hK, hN, hA, hX⟩ := id C
  unfold b_X6_text_166 at h
  refine lv_aload_n hx hb dX6_text_166 rfl (lv_at hl 0 rfl) ?_
  refine gf_6_12 C hP (iL (by decide)) (by decide) wd_894 dX6_text_167 ?_
  refine lv_iconst (v := 1) hx hb dX6_text_170 (by decide) ?_
  refine lv_isub hx hb dX6_text_171 ?_
  exact rt_i (r := ((FI M 100 12) - (1 : Int32))) C hP hD hS dX6_text_172 (rw_end h)
def b_X6_text_144 (N : Nat) (x1 : Int32) (M : Mem) : Option (Int32 × Mem) := (if x1 = 0 then some (((-100 : Int32) - (FI M 100 23)), M) else b_X6_text_166 N (sFI M 100 12 ((FI M 100 12) + (1 : Int32))))
set_option maxHeartbeats 4000000 in
set_option maxRecDepth 100000 in
theorem w_X6_text_144 (C : CX p s m args meth c cX6_text 3 (some .int) RX6 D cy ad zz 100 21 A) {N : Nat} {M : Mem} {rr : Int32} {M' : Mem} {x1 : Int32} {H : Heap} {locs : List Loc} (hP : va_P D vwCl (pool cy ad 100 21 M) H) (hD : va_D A (pool cy ad 100 21 M)) (hS : va_S A s.heap H locs) {ls : Array Slot} (hl : lv_has ls 3 [(0, .ref (ad 100)), (1, .int x1)]) (h : b_X6_text_144 N x1 M = some (rr, M')) : W p l e ({ frames := 4, cells := 0, slots := 0, locals := 87 } : Room) s m args below meth c H locs 0 0 (MQ below (va_Qi (fun (x : Int32) (_ : Unit) => x = rr) (fun _ t => PA D cy ad 100 21 A M' t) A) args s 0 0 A) (F0 m 144 ls []) := by
  obtain ⟨hx, hb, hml, hown, hts, hr, hlk, hK, hN, hA, hX⟩ := id C
  unfold b_X6_text_144 at h
  refine lv_iload_n hx hb dX6_text_144 rfl (lv_at hl 1 rfl) ?_
  refine lv_if_ne (tgt := 156) hx hb dX6_text_145 (by decide) (fun c145 => ?_) (fun c145 => ?_)
  · replace h := it_f c145 h
    refine lv_aload_n hx hb dX6_text_156 rfl (lv_at hl 0 rfl) ?_
    refine lv_dup hx hb dX6_text_157 rfl ?_
    refine gf_6_12 C hP (iL (by decide)) (by decide) wd_894 dX6_text_158 ?_
    refine lv_iconst (v := 1) hx hb dX6_text_161 (by decide) ?_
    refine lv_iadd hx hb dX6_text_162 ?_
    refine pf_6_12 C hP hD hS (iL (by decide)) (by decide) wd_894 dX6_text_163 (fun H locs hP hD hS => ?_)
    exact w_X6_text_166 C hP hD hS (lv_sub hl [0] rfl) h
  · replace h := it_t c145 h
    refine lv_bipush (v := -100) hx hb dX6_text_148 (by decide) ?_
    refine lv_aload_n hx hb dX6_text_150 rfl (lv_at hl 0 rfl) ?_
    refine gf_6_23 C hP (iL (by decide)) (by decide) wd_905 dX6_text_151 ?_
    refine lv_isub hx hb dX6_text_154 ?_
    exact rt_i (r := ((-100 : Int32) - (FI M 100 23))) C hP hD hS dX6_text_155 (rw_end h)
def b_X6_text_139 (N : Nat) (x1 : Int32) (M : Mem) : Option (Int32 × Mem) := b_X6_text_144 N x1 (sFI M 100 9 (0 : Int32))
set_option maxHeartbeats 4000000 in
set_option maxRecDepth 100000 in
theorem w_X6_text_139 (C : CX p s m args meth c cX6_text 3 (some .int) RX6 D cy ad zz 100 21 A) {N : Nat} {M : Mem} {rr : Int32} {M' : Mem} {x1 : Int32} {H : Heap} {locs : List Loc} (hP : va_P D vwCl (pool cy ad 100 21 M) H) (hD : va_D A (pool cy ad 100 21 M)) (hS : va_S A s.heap H locs) {ls : Array Slot} (hl : lv_has ls 3 [(0, .ref (ad 100)), (1, .int x1)]) (h : b_X6_text_139 N x1 M = some (rr, M')) : W p l e ({ frames := 4, cells := 0, slots := 0, locals := 87 } : Room) s m args below meth c H locs 0 0 (MQ below (va_Qi (fun (x : Int32) (_ : Unit) => x = rr) (fun _ t => PA D cy ad 100 21 A M' t) A) args s 0 0 A) (F0 m 139 ls []) := by
  obtain ⟨hx, hb, hml, hown, hts, hr, hlk, hK, hN, hA, hX⟩ := id C
  unfold b_X6_text_139 at h
  refine lv_aload_n hx hb dX6_text_139 rfl (lv_at hl 0 rfl) ?_
  refine lv_iconst (v := 0) hx hb dX6_text_140 (by decide) ?_
  refine pf_6_9 C hP hD hS (iL (by decide)) (by decide) wd_891 dX6_text_141 (fun H locs hP hD hS => ?_)
  exact w_X6_text_144 C hP hD hS hl h
def b_X6_text_122 (N : Nat) (x1 : Int32) (M : Mem) : Option (Int32 × Mem) := gd (inb (((4 : Int32) * (FI M 100 12)) + (3 : Int32)) (len 108)) (b_X6_text_139 N x1 (sAI M 108 (((4 : Int32) * (FI M 100 12)) + (3 : Int32)).toNatClampNeg (FI M 100 30)))
set_option maxHeartbeats 4000000 in
set_option maxRecDepth 100000 in
theorem w_X6_text_122 (C : CX p s m args meth c cX6_text 3 (some .int) RX6 D cy ad zz 100 21 A) {N : Nat} {M : Mem} {rr : Int32} {M' : Mem} {x1 : Int32} {H : Heap} {locs : List Loc} (hP : va_P D vwCl (pool cy ad 100 21 M) H) (hD : va_D A (pool cy ad 100 21 M)) (hS : va_S A s.heap H locs) {ls : Array Slot} (hl : lv_has ls 3 [(0, .ref (ad 100)), (1, .int x1)]) (h : b_X6_text_122 N x1 M = some (rr, M')) : W p l e ({ frames := 4, cells := 0, slots := 0, locals := 87 } : Room) s m args below meth c H locs 0 0 (MQ below (va_Qi (fun (x : Int32) (_ : Unit) => x = rr) (fun _ t => PA D cy ad 100 21 A M' t) A) args s 0 0 A) (F0 m 122 ls []) := by
  obtain ⟨hx, hb, hml, hown, hts, hr, hlk, hK, hN, hA, hX⟩ := id C
  unfold b_X6_text_122 at h
  refine lv_aload_n hx hb dX6_text_122 rfl (lv_at hl 0 rfl) ?_
  refine gf_6_11 C hP (iL (by decide)) (by decide) wd_893 dX6_text_123 ?_
  refine lv_iconst (v := 4) hx hb dX6_text_126 (by decide) ?_
  refine lv_aload_n hx hb dX6_text_127 rfl (lv_at hl 0 rfl) ?_
  refine gf_6_12 C hP (iL (by decide)) (by decide) wd_894 dX6_text_128 ?_
  refine lv_imul hx hb dX6_text_131 ?_
  refine lv_iconst (v := 3) hx hb dX6_text_132 (by decide) ?_
  refine lv_iadd hx hb dX6_text_133 ?_
  refine lv_aload_n hx hb dX6_text_134 rfl (lv_at hl 0 rfl) ?_
  refine gf_6_30 C hP (iL (by decide)) (by decide) wd_912 dX6_text_135 ?_
  obtain ⟨gi1, h⟩ := gd_of h
  refine ia_st C hP hD hS (iL (by decide)) (by decide) gi1 dX6_text_138 (fun H locs hP hD hS => ?_)
  exact w_X6_text_139 C hP hD hS hl h
def b_X6_text_121 (N : Nat) (t0 : Int32) (M : Mem) : Option (Int32 × Mem) := b_X6_text_122 N t0 M
set_option maxHeartbeats 4000000 in
set_option maxRecDepth 100000 in
theorem w_X6_text_121 (C : CX p s m args meth c cX6_text 3 (some .int) RX6 D cy ad zz 100 21 A) {N : Nat} {M : Mem} {rr : Int32} {M' : Mem} {t0 : Int32} {H : Heap} {locs : List Loc} (hP : va_P D vwCl (pool cy ad 100 21 M) H) (hD : va_D A (pool cy ad 100 21 M)) (hS : va_S A s.heap H locs) {ls : Array Slot} (hl : lv_has ls 3 [(0, .ref (ad 100))]) (h : b_X6_text_121 N t0 M = some (rr, M')) : W p l e ({ frames := 4, cells := 0, slots := 0, locals := 87 } : Room) s m args below meth c H locs 0 0 (MQ below (va_Qi (fun (x : Int32) (_ : Unit) => x = rr) (fun _ t => PA D cy ad 100 21 A M' t) A) args s 0 0 A) (F0 m 121 ls [.int t0]) := by
  obtain ⟨hx, hb, hml, hown, hts, hr, hlk, hK, hN, hA, hX⟩ := id C
  unfold b_X6_text_121 at h
  refine lv_istore_n (lv' := [(1, .int t0), (0, .ref (ad 100))]) hx hb dX6_text_121 rfl hl (by decide) rfl (fun ls hl => ?_)
  exact w_X6_text_122 C hP hD hS (lv_sub hl [1, 0] rfl) h
def b_X6_text_101 (N : Nat) (x1 : Int32) (M : Mem) : Option (Int32 × Mem) := (if x1 = 0 then b_X6_text_122 N x1 M else (f_X6_next N M).bind fun M106 => (if (FI M106 100 24) = 0 then b_X6_text_121 N (1 : Int32) M106 else b_X6_text_121 N (0 : Int32) M106))
set_option maxHeartbeats 4000000 in
set_option maxRecDepth 100000 in
theorem w_X6_text_101 (C : CX p s m args meth c cX6_text 3 (some .int) RX6 D cy ad zz 100 21 A) {N : Nat} {M : Mem} {rr : Int32} {M' : Mem} {x1 : Int32} {H : Heap} {locs : List Loc} (hP : va_P D vwCl (pool cy ad 100 21 M) H) (hD : va_D A (pool cy ad 100 21 M)) (hS : va_S A s.heap H locs) {ls : Array Slot} (hl : lv_has ls 3 [(0, .ref (ad 100)), (1, .int x1)]) (h : b_X6_text_101 N x1 M = some (rr, M')) : W p l e ({ frames := 4, cells := 0, slots := 0, locals := 87 } : Room) s m args below meth c H locs 0 0 (MQ below (va_Qi (fun (x : Int32) (_ : Unit) => x = rr) (fun _ t => PA D cy ad 100 21 A M' t) A) args s 0 0 A) (F0 m 101 ls []) := by
  obtain ⟨hx, hb, hml, hown, hts, hr, hlk, hK, hN, hA, hX⟩ := id C
  unfold b_X6_text_101 at h
  refine lv_iload_n hx hb dX6_text_101 rfl (lv_at hl 1 rfl) ?_
  refine lv_if_eq (tgt := 122) hx hb dX6_text_102 (by decide) (fun c102 => ?_) (fun c102 => ?_)
  · replace h := it_t c102 h
    exact w_X6_text_122 C hP hD hS hl h
  · replace h := it_f c102 h
    refine lv_aload_n hx hb dX6_text_105 rfl (lv_at hl 0 rfl) ?_
    obtain ⟨M106, g106, h⟩ := bd_of h
    refine call_vV (As := []) (rest := []) C hP hD hS (c_X6_next g106) (iL (by decide)) ⟨6, _, _, ent_6 (by decide), rfl, rfl⟩ (gV wd_839 wd_841 wd_29 wd_75 wd_842) ev_X6_next ⟨rfl, rfl⟩ ⟨Nat.le_of_ble_eq_true rfl, Nat.le_of_ble_eq_true rfl⟩ hl.1 rfl (Nat.le_of_ble_eq_true rfl) dX6_text_106 (fun H locs hP hD hS => ?_)
    refine lv_aload_n hx hb dX6_text_109 rfl (lv_at hl 0 rfl) ?_
    refine gf_6_24 C hP (iL (by decide)) (by decide) wd_906 dX6_text_110 ?_
    refine lv_if_ne (tgt := 120) hx hb dX6_text_113 (by decide) (fun c113 => ?_) (fun c113 => ?_)
    · replace h := it_f c113 h
      refine lv_iconst (v := 0) hx hb dX6_text_120 (by decide) ?_
      exact w_X6_text_121 C hP hD hS (lv_sub hl [0] rfl) h
    · replace h := it_t c113 h
      refine lv_iconst (v := 1) hx hb dX6_text_116 (by decide) ?_
      refine lv_goto (tgt := 121) hx hb dX6_text_117 (by decide) ?_
      exact w_X6_text_121 C hP hD hS (lv_sub hl [0] rfl) h
def b_X6_text_94 (N : Nat) (k26 : Int32 → Int32 → Mem → Option (Int32 × Mem)) (x2 : Int32) (t0 : Int32) (M : Mem) : Option (Int32 × Mem) := k26 t0 (x2 + (1 : Int32)) M
set_option maxHeartbeats 4000000 in
set_option maxRecDepth 100000 in
theorem w_X6_text_94 (C : CX p s m args meth c cX6_text 3 (some .int) RX6 D cy ad zz 100 21 A) {N : Nat} {M : Mem} {k26 : Int32 → Int32 → Mem → Option (Int32 × Mem)} {rr : Int32} {M' : Mem} (hk26 : ∀ (x1 : Int32), ∀ (x2 : Int32), ∀ (M : Mem), ∀ (H : Heap) (locs : List Loc), va_P D vwCl (pool cy ad 100 21 M) H → va_D A (pool cy ad 100 21 M) → va_S A s.heap H locs → ∀ (ls : Array Slot), lv_has ls 3 [(0, .ref (ad 100)), (1, .int x1), (2, .int x2)] → k26 x1 x2 M = some (rr, M') → W p l e ({ frames := 4, cells := 0, slots := 0, locals := 87 } : Room) s m args below meth c H locs 0 0 (MQ below (va_Qi (fun (x : Int32) (_ : Unit) => x = rr) (fun _ t => PA D cy ad 100 21 A M' t) A) args s 0 0 A) (F0 m 26 ls [])) {x2 : Int32} {t0 : Int32} {H : Heap} {locs : List Loc} (hP : va_P D vwCl (pool cy ad 100 21 M) H) (hD : va_D A (pool cy ad 100 21 M)) (hS : va_S A s.heap H locs) {ls : Array Slot} (hl : lv_has ls 3 [(0, .ref (ad 100)), (2, .int x2)]) (h : b_X6_text_94 N k26 x2 t0 M = some (rr, M')) : W p l e ({ frames := 4, cells := 0, slots := 0, locals := 87 } : Room) s m args below meth c H locs 0 0 (MQ below (va_Qi (fun (x : Int32) (_ : Unit) => x = rr) (fun _ t => PA D cy ad 100 21 A M' t) A) args s 0 0 A) (F0 m 94 ls [.int t0]) := by
  obtain ⟨hx, hb, hml, hown, hts, hr, hlk, hK, hN, hA, hX⟩ := id C
  unfold b_X6_text_94 at h
  refine lv_istore_n (lv' := [(1, .int t0), (0, .ref (ad 100)), (2, .int x2)]) hx hb dX6_text_94 rfl hl (by decide) rfl (fun ls hl => ?_)
  refine lv_iinc (v := (x2 + (1 : Int32))) (lv' := [(2, .int (x2 + (1 : Int32))), (1, .int t0), (0, .ref (ad 100))]) hx hb dX6_text_95 hl (k := 2) rfl rfl (by decide) rfl (fun ls hl => ?_)
  refine lv_goto (tgt := 26) hx hb dX6_text_98 (by decide) ?_
  exact hk26 _ _ _ _ _ hP hD hS _ (lv_sub hl [2, 1, 0] rfl) h
def b_X6_text_93 (N : Nat) (k26 : Int32 → Int32 → Mem → Option (Int32 × Mem)) (x2 : Int32) (M : Mem) : Option (Int32 × Mem) := b_X6_text_94 N k26 x2 (0 : Int32) M
set_option maxHeartbeats 4000000 in
set_option maxRecDepth 100000 in
theorem w_X6_text_93 (C : CX p s m args meth c cX6_text 3 (some .int) RX6 D cy ad zz 100 21 A) {N : Nat} {M : Mem} {k26 : Int32 → Int32 → Mem → Option (Int32 × Mem)} {rr : Int32} {M' : Mem} (hk26 : ∀ (x1 : Int32), ∀ (x2 : Int32), ∀ (M : Mem), ∀ (H : Heap) (locs : List Loc), va_P D vwCl (pool cy ad 100 21 M) H → va_D A (pool cy ad 100 21 M) → va_S A s.heap H locs → ∀ (ls : Array Slot), lv_has ls 3 [(0, .ref (ad 100)), (1, .int x1), (2, .int x2)] → k26 x1 x2 M = some (rr, M') → W p l e ({ frames := 4, cells := 0, slots := 0, locals := 87 } : Room) s m args below meth c H locs 0 0 (MQ below (va_Qi (fun (x : Int32) (_ : Unit) => x = rr) (fun _ t => PA D cy ad 100 21 A M' t) A) args s 0 0 A) (F0 m 26 ls [])) {x2 : Int32} {H : Heap} {locs : List Loc} (hP : va_P D vwCl (pool cy ad 100 21 M) H) (hD : va_D A (pool cy ad 100 21 M)) (hS : va_S A s.heap H locs) {ls : Array Slot} (hl : lv_has ls 3 [(0, .ref (ad 100)), (2, .int x2)]) (h : b_X6_text_93 N k26 x2 M = some (rr, M')) : W p l e ({ frames := 4, cells := 0, slots := 0, locals := 87 } : Room) s m args below meth c H locs 0 0 (MQ below (va_Qi (fun (x : Int32) (_ : Unit) => x = rr) (fun _ t => PA D cy ad 100 21 A M' t) A) args s 0 0 A) (F0 m 93 ls []) := by
  obtain ⟨hx, hb, hml, hown, hts, hr, hlk, hK, hN, hA, hX⟩ := id C
  unfold b_X6_text_93 at h
  refine lv_iconst (v := 0) hx hb dX6_text_93 (by decide) ?_
  exact w_X6_text_94 C hk26 hP hD hS hl h
def b_X6_text_78 (N : Nat) (k26 : Int32 → Int32 → Mem → Option (Int32 × Mem)) (x1 : Int32) (x2 : Int32) (M : Mem) : Option (Int32 × Mem) := (if x1 = 0 then b_X6_text_93 N k26 x2 M else bd2 (f_X6_eRead N M) fun r83 M83 => (if r83 = true then b_X6_text_94 N k26 x2 (1 : Int32) M83 else b_X6_text_93 N k26 x2 M83))
set_option maxHeartbeats 4000000 in
set_option maxRecDepth 100000 in
theorem w_X6_text_78 (C : CX p s m args meth c cX6_text 3 (some .int) RX6 D cy ad zz 100 21 A) {N : Nat} {M : Mem} {k26 : Int32 → Int32 → Mem → Option (Int32 × Mem)} {rr : Int32} {M' : Mem} (hk26 : ∀ (x1 : Int32), ∀ (x2 : Int32), ∀ (M : Mem), ∀ (H : Heap) (locs : List Loc), va_P D vwCl (pool cy ad 100 21 M) H → va_D A (pool cy ad 100 21 M) → va_S A s.heap H locs → ∀ (ls : Array Slot), lv_has ls 3 [(0, .ref (ad 100)), (1, .int x1), (2, .int x2)] → k26 x1 x2 M = some (rr, M') → W p l e ({ frames := 4, cells := 0, slots := 0, locals := 87 } : Room) s m args below meth c H locs 0 0 (MQ below (va_Qi (fun (x : Int32) (_ : Unit) => x = rr) (fun _ t => PA D cy ad 100 21 A M' t) A) args s 0 0 A) (F0 m 26 ls [])) {x1 : Int32} {x2 : Int32} {H : Heap} {locs : List Loc} (hP : va_P D vwCl (pool cy ad 100 21 M) H) (hD : va_D A (pool cy ad 100 21 M)) (hS : va_S A s.heap H locs) {ls : Array Slot} (hl : lv_has ls 3 [(0, .ref (ad 100)), (1, .int x1), (2, .int x2)]) (h : b_X6_text_78 N k26 x1 x2 M = some (rr, M')) : W p l e ({ frames := 4, cells := 0, slots := 0, locals := 87 } : Room) s m args below meth c H locs 0 0 (MQ below (va_Qi (fun (x : Int32) (_ : Unit) => x = rr) (fun _ t => PA D cy ad 100 21 A M' t) A) args s 0 0 A) (F0 m 78 ls []) := by
  obtain ⟨hx, hb, hml, hown, hts, hr, hlk, hK, hN, hA, hX⟩ := id C
  unfold b_X6_text_78 at h
  refine lv_iload_n hx hb dX6_text_78 rfl (lv_at hl 1 rfl) ?_
  refine lv_if_eq (tgt := 93) hx hb dX6_text_79 (by decide) (fun c79 => ?_) (fun c79 => ?_)
  · replace h := it_t c79 h
    exact w_X6_text_93 C hk26 hP hD hS (lv_sub hl [0, 2] rfl) h
  · replace h := it_f c79 h
    refine lv_aload_n hx hb dX6_text_82 rfl (lv_at hl 0 rfl) ?_
    obtain ⟨r83, M83, g83, h⟩ := bd2_of h
    refine call_iV (As := []) (rest := []) C hP hD hS (c_X6_eRead g83) (iL (by decide)) ⟨6, _, _, ent_6 (by decide), rfl, rfl⟩ (gV wd_850 wd_852 wd_31 wd_75 wd_853) ev_X6_eRead ⟨rfl, rfl⟩ ⟨Nat.le_of_ble_eq_true rfl, Nat.le_of_ble_eq_true rfl⟩ hl.1 rfl (Nat.le_of_ble_eq_true rfl) dX6_text_83 (fun H locs hP hD hS => ?_)
    refine lv_if_eq (tgt := 93) hx hb dX6_text_86 (by decide) (fun c86 => ?_) (fun c86 => ?_)
    · replace h := it_f (b2i_n c86) h
      exact w_X6_text_93 C hk26 hP hD hS (lv_sub hl [0, 2] rfl) h
    · replace h := it_t (b2i_1 c86) h
      refine lv_iconst (v := 1) hx hb dX6_text_89 (by decide) ?_
      refine lv_goto (tgt := 94) hx hb dX6_text_90 (by decide) ?_
      exact w_X6_text_94 C hk26 hP hD hS (lv_sub hl [0, 2] rfl) h
def b_X6_text_60 (N : Nat) (k26 : Int32 → Int32 → Mem → Option (Int32 × Mem)) (x2 : Int32) (t0 : Int32) (M : Mem) : Option (Int32 × Mem) := gd (inb (((4 : Int32) * (FI M 100 12)) + x2) (len 108)) (b_X6_text_78 N k26 t0 x2 (sAI M 108 (((4 : Int32) * (FI M 100 12)) + x2).toNatClampNeg (FI M 100 30)))
set_option maxHeartbeats 4000000 in
set_option maxRecDepth 100000 in
theorem w_X6_text_60 (C : CX p s m args meth c cX6_text 3 (some .int) RX6 D cy ad zz 100 21 A) {N : Nat} {M : Mem} {k26 : Int32 → Int32 → Mem → Option (Int32 × Mem)} {rr : Int32} {M' : Mem} (hk26 : ∀ (x1 : Int32), ∀ (x2 : Int32), ∀ (M : Mem), ∀ (H : Heap) (locs : List Loc), va_P D vwCl (pool cy ad 100 21 M) H → va_D A (pool cy ad 100 21 M) → va_S A s.heap H locs → ∀ (ls : Array Slot), lv_has ls 3 [(0, .ref (ad 100)), (1, .int x1), (2, .int x2)] → k26 x1 x2 M = some (rr, M') → W p l e ({ frames := 4, cells := 0, slots := 0, locals := 87 } : Room) s m args below meth c H locs 0 0 (MQ below (va_Qi (fun (x : Int32) (_ : Unit) => x = rr) (fun _ t => PA D cy ad 100 21 A M' t) A) args s 0 0 A) (F0 m 26 ls [])) {x2 : Int32} {t0 : Int32} {H : Heap} {locs : List Loc} (hP : va_P D vwCl (pool cy ad 100 21 M) H) (hD : va_D A (pool cy ad 100 21 M)) (hS : va_S A s.heap H locs) {ls : Array Slot} (hl : lv_has ls 3 [(0, .ref (ad 100)), (2, .int x2)]) (h : b_X6_text_60 N k26 x2 t0 M = some (rr, M')) : W p l e ({ frames := 4, cells := 0, slots := 0, locals := 87 } : Room) s m args below meth c H locs 0 0 (MQ below (va_Qi (fun (x : Int32) (_ : Unit) => x = rr) (fun _ t => PA D cy ad 100 21 A M' t) A) args s 0 0 A) (F0 m 60 ls [.int t0]) := by
  obtain ⟨hx, hb, hml, hown, hts, hr, hlk, hK, hN, hA, hX⟩ := id C
  unfold b_X6_text_60 at h
  refine lv_istore_n (lv' := [(1, .int t0), (0, .ref (ad 100)), (2, .int x2)]) hx hb dX6_text_60 rfl hl (by decide) rfl (fun ls hl => ?_)
  refine lv_aload_n hx hb dX6_text_61 rfl (lv_at hl 1 rfl) ?_
  refine gf_6_11 C hP (iL (by decide)) (by decide) wd_893 dX6_text_62 ?_
  refine lv_iconst (v := 4) hx hb dX6_text_65 (by decide) ?_
  refine lv_aload_n hx hb dX6_text_66 rfl (lv_at hl 1 rfl) ?_
  refine gf_6_12 C hP (iL (by decide)) (by decide) wd_894 dX6_text_67 ?_
  refine lv_imul hx hb dX6_text_70 ?_
  refine lv_iload_n hx hb dX6_text_71 rfl (lv_at hl 2 rfl) ?_
  refine lv_iadd hx hb dX6_text_72 ?_
  refine lv_aload_n hx hb dX6_text_73 rfl (lv_at hl 1 rfl) ?_
  refine gf_6_30 C hP (iL (by decide)) (by decide) wd_912 dX6_text_74 ?_
  obtain ⟨gi1, h⟩ := gd_of h
  refine ia_st C hP hD hS (iL (by decide)) (by decide) gi1 dX6_text_77 (fun H locs hP hD hS => ?_)
  exact w_X6_text_78 C hk26 hP hD hS (lv_sub hl [1, 0, 2] rfl) h
def b_X6_text_59 (N : Nat) (k26 : Int32 → Int32 → Mem → Option (Int32 × Mem)) (x2 : Int32) (M : Mem) : Option (Int32 × Mem) := b_X6_text_60 N k26 x2 (0 : Int32) M
set_option maxHeartbeats 4000000 in
set_option maxRecDepth 100000 in
theorem w_X6_text_59 (C : CX p s m args meth c cX6_text 3 (some .int) RX6 D cy ad zz 100 21 A) {N : Nat} {M : Mem} {k26 : Int32 → Int32 → Mem → Option (Int32 × Mem)} {rr : Int32} {M' : Mem} (hk26 : ∀ (x1 : Int32), ∀ (x2 : Int32), ∀ (M : Mem), ∀ (H : Heap) (locs : List Loc), va_P D vwCl (pool cy ad 100 21 M) H → va_D A (pool cy ad 100 21 M) → va_S A s.heap H locs → ∀ (ls : Array Slot), lv_has ls 3 [(0, .ref (ad 100)), (1, .int x1), (2, .int x2)] → k26 x1 x2 M = some (rr, M') → W p l e ({ frames := 4, cells := 0, slots := 0, locals := 87 } : Room) s m args below meth c H locs 0 0 (MQ below (va_Qi (fun (x : Int32) (_ : Unit) => x = rr) (fun _ t => PA D cy ad 100 21 A M' t) A) args s 0 0 A) (F0 m 26 ls [])) {x2 : Int32} {H : Heap} {locs : List Loc} (hP : va_P D vwCl (pool cy ad 100 21 M) H) (hD : va_D A (pool cy ad 100 21 M)) (hS : va_S A s.heap H locs) {ls : Array Slot} (hl : lv_has ls 3 [(0, .ref (ad 100)), (2, .int x2)]) (h : b_X6_text_59 N k26 x2 M = some (rr, M')) : W p l e ({ frames := 4, cells := 0, slots := 0, locals := 87 } : Room) s m args below meth c H locs 0 0 (MQ below (va_Qi (fun (x : Int32) (_ : Unit) => x = rr) (fun _ t => PA D cy ad 100 21 A M' t) A) args s 0 0 A) (F0 m 59 ls []) := by
  obtain ⟨hx, hb, hml, hown, hts, hr, hlk, hK, hN, hA, hX⟩ := id C
  unfold b_X6_text_59 at h
  refine lv_iconst (v := 0) hx hb dX6_text_59 (by decide) ?_
  exact w_X6_text_60 C hk26 hP hD hS hl h
def b_X6_text_26 (N : Nat) : Nat → Int32 → Int32 → Mem → Option (Int32 × Mem)
  | 0, _, _, _ => none
  | fu + 1, x1, x2, M => (if (3 : Int32) ≤ x2 then b_X6_text_101 N x1 M else (if x1 = 0 then b_X6_text_101 N x1 M else (f_X6_next N M).bind fun M36 => (if (FI M36 100 24) = (3 : Int32) then (if (FI M36 100 25) = x2 then b_X6_text_60 N (b_X6_text_26 N fu) x2 (1 : Int32) M36 else b_X6_text_59 N (b_X6_text_26 N fu) x2 M36) else b_X6_text_59 N (b_X6_text_26 N fu) x2 M36)))
set_option maxHeartbeats 4000000 in
set_option maxRecDepth 100000 in
theorem w_X6_text_26 (C : CX p s m args meth c cX6_text 3 (some .int) RX6 D cy ad zz 100 21 A) {N : Nat} {rr : Int32} {M' : Mem}  : ∀ (fu : Nat), ∀ (x1 : Int32), ∀ (x2 : Int32), ∀ (M : Mem), ∀ (H : Heap) (locs : List Loc), va_P D vwCl (pool cy ad 100 21 M) H → va_D A (pool cy ad 100 21 M) → va_S A s.heap H locs → ∀ (ls : Array Slot), lv_has ls 3 [(0, .ref (ad 100)), (1, .int x1), (2, .int x2)] → b_X6_text_26 N fu x1 x2 M = some (rr, M') → W p l e ({ frames := 4, cells := 0, slots := 0, locals := 87 } : Room) s m args below meth c H locs 0 0 (MQ below (va_Qi (fun (x : Int32) (_ : Unit) => x = rr) (fun _ t => PA D cy ad 100 21 A M' t) A) args s 0 0 A) (F0 m 26 ls []) := by
  obtain ⟨hx, hb, hml, hown, hts, hr, hlk, hK, hN, hA, hX⟩ := id C
  intro fu
  induction fu with
  | zero =>
    intro x1 x2 M H locs hP hD hS ls hl h
    exact no_some (show none = some _ from h)
  | succ fu ih =>
    intro x1 x2 M H locs hP hD hS ls hl h
    rw [b_X6_text_26] at h
    refine lv_iload_n hx hb dX6_text_26 rfl (lv_at hl 2 rfl) ?_
    refine lv_iconst (v := 3) hx hb dX6_text_27 (by decide) ?_
    refine lv_icmp_ge (tgt := 101) hx hb dX6_text_28 (by decide) (fun c28 => ?_) (fun c28 => ?_)
    · replace h := it_t c28 h
      exact w_X6_text_101 C hP hD hS (lv_sub hl [0, 1] rfl) h
    · replace h := it_f c28 h
      refine lv_iload_n hx hb dX6_text_31 rfl (lv_at hl 1 rfl) ?_
      refine lv_if_eq (tgt := 101) hx hb dX6_text_32 (by decide) (fun c32 => ?_) (fun c32 => ?_)
      · replace h := it_t c32 h
        exact w_X6_text_101 C hP hD hS (lv_sub hl [0, 1] rfl) h
      · replace h := it_f c32 h
        refine lv_aload_n hx hb dX6_text_35 rfl (lv_at hl 0 rfl) ?_
        obtain ⟨M36, g36, h⟩ := bd_of h
        refine call_vV (As := []) (rest := []) C hP hD hS (c_X6_next g36) (iL (by decide)) ⟨6, _, _, ent_6 (by decide), rfl, rfl⟩ (gV wd_839 wd_841 wd_29 wd_75 wd_842) ev_X6_next ⟨rfl, rfl⟩ ⟨Nat.le_of_ble_eq_true rfl, Nat.le_of_ble_eq_true rfl⟩ hl.1 rfl (Nat.le_of_ble_eq_true rfl) dX6_text_36 (fun H locs hP hD hS => ?_)
        refine lv_aload_n hx hb dX6_text_39 rfl (lv_at hl 0 rfl) ?_
        refine gf_6_24 C hP (iL (by decide)) (by decide) wd_906 dX6_text_40 ?_
        refine lv_iconst (v := 3) hx hb dX6_text_43 (by decide) ?_
        refine lv_icmp_ne (tgt := 59) hx hb dX6_text_44 (by decide) (fun c44 => ?_) (fun c44 => ?_)
        · replace h := it_f c44 h
          exact w_X6_text_59 C ih hP hD hS (lv_sub hl [0, 2] rfl) h
        · replace h := it_t c44 h
          refine lv_aload_n hx hb dX6_text_47 rfl (lv_at hl 0 rfl) ?_
          refine gf_6_25 C hP (iL (by decide)) (by decide) wd_907 dX6_text_48 ?_
          refine lv_iload_n hx hb dX6_text_51 rfl (lv_at hl 2 rfl) ?_
          refine lv_icmp_ne (tgt := 59) hx hb dX6_text_52 (by decide) (fun c52 => ?_) (fun c52 => ?_)
          · replace h := it_f c52 h
            exact w_X6_text_59 C ih hP hD hS (lv_sub hl [0, 2] rfl) h
          · replace h := it_t c52 h
            refine lv_iconst (v := 1) hx hb dX6_text_55 (by decide) ?_
            refine lv_goto (tgt := 60) hx hb dX6_text_56 (by decide) ?_
            exact w_X6_text_60 C ih hP hD hS (lv_sub hl [0, 2] rfl) h
def b_X6_text_22 (N : Nat) (M : Mem) : Option (Int32 × Mem) := b_X6_text_26 N N (1 : Int32) (0 : Int32) M
set_option maxHeartbeats 4000000 in
set_option maxRecDepth 100000 in
theorem w_X6_text_22 (C : CX p s m args meth c cX6_text 3 (some .int) RX6 D cy ad zz 100 21 A) {N : Nat} {M : Mem} {rr : Int32} {M' : Mem} {H : Heap} {locs : List Loc} (hP : va_P D vwCl (pool cy ad 100 21 M) H) (hD : va_D A (pool cy ad 100 21 M)) (hS : va_S A s.heap H locs) {ls : Array Slot} (hl : lv_has ls 3 [(0, .ref (ad 100))]) (h : b_X6_text_22 N M = some (rr, M')) : W p l e ({ frames := 4, cells := 0, slots := 0, locals := 87 } : Room) s m args below meth c H locs 0 0 (MQ below (va_Qi (fun (x : Int32) (_ : Unit) => x = rr) (fun _ t => PA D cy ad 100 21 A M' t) A) args s 0 0 A) (F0 m 22 ls []) := by
  obtain ⟨hx, hb, hml, hown, hts, hr, hlk, hK, hN, hA, hX⟩ := id C
  unfold b_X6_text_22 at h
  refine lv_iconst (v := 1) hx hb dX6_text_22 (by decide) ?_
  refine lv_istore_n (lv' := [(1, .int (1 : Int32)), (0, .ref (ad 100))]) hx hb dX6_text_23 rfl hl (by decide) rfl (fun ls hl => ?_)
  refine lv_iconst (v := 0) hx hb dX6_text_24 (by decide) ?_
  refine lv_istore_n (lv' := [(2, .int (0 : Int32)), (1, .int (1 : Int32)), (0, .ref (ad 100))]) hx hb dX6_text_25 rfl hl (by decide) rfl (fun ls hl => ?_)
  exact w_X6_text_26 C N _ _ _ _ _ hP hD hS _ (lv_sub hl [2, 1, 0] rfl) h
def b_X6_text_17 (N : Nat) (M : Mem) : Option (Int32 × Mem) := b_X6_text_22 N (sFI M 100 30 (0 : Int32))
set_option maxHeartbeats 4000000 in
set_option maxRecDepth 100000 in
theorem w_X6_text_17 (C : CX p s m args meth c cX6_text 3 (some .int) RX6 D cy ad zz 100 21 A) {N : Nat} {M : Mem} {rr : Int32} {M' : Mem} {H : Heap} {locs : List Loc} (hP : va_P D vwCl (pool cy ad 100 21 M) H) (hD : va_D A (pool cy ad 100 21 M)) (hS : va_S A s.heap H locs) {ls : Array Slot} (hl : lv_has ls 3 [(0, .ref (ad 100))]) (h : b_X6_text_17 N M = some (rr, M')) : W p l e ({ frames := 4, cells := 0, slots := 0, locals := 87 } : Room) s m args below meth c H locs 0 0 (MQ below (va_Qi (fun (x : Int32) (_ : Unit) => x = rr) (fun _ t => PA D cy ad 100 21 A M' t) A) args s 0 0 A) (F0 m 17 ls []) := by
  obtain ⟨hx, hb, hml, hown, hts, hr, hlk, hK, hN, hA, hX⟩ := id C
  unfold b_X6_text_17 at h
  refine lv_aload_n hx hb dX6_text_17 rfl (lv_at hl 0 rfl) ?_
  refine lv_iconst (v := 0) hx hb dX6_text_18 (by decide) ?_
  refine pf_6_30 C hP hD hS (iL (by decide)) (by decide) wd_912 dX6_text_19 (fun H locs hP hD hS => ?_)
  exact w_X6_text_22 C hP hD hS hl h
def b_X6_text_0 (N : Nat) (M : Mem) : Option (Int32 × Mem) := (if (FI M 100 12) = (6 : Int32) then some ((-4 : Int32), M) else b_X6_text_17 N (sFI M 100 22 (0 : Int32)))
set_option maxHeartbeats 4000000 in
set_option maxRecDepth 100000 in
theorem w_X6_text_0 (C : CX p s m args meth c cX6_text 3 (some .int) RX6 D cy ad zz 100 21 A) {N : Nat} {M : Mem} {rr : Int32} {M' : Mem} {H : Heap} {locs : List Loc} (hP : va_P D vwCl (pool cy ad 100 21 M) H) (hD : va_D A (pool cy ad 100 21 M)) (hS : va_S A s.heap H locs) {ls : Array Slot} (hl : lv_has ls 3 [(0, .ref (ad 100))]) (h : b_X6_text_0 N M = some (rr, M')) : W p l e ({ frames := 4, cells := 0, slots := 0, locals := 87 } : Room) s m args below meth c H locs 0 0 (MQ below (va_Qi (fun (x : Int32) (_ : Unit) => x = rr) (fun _ t => PA D cy ad 100 21 A M' t) A) args s 0 0 A) (F0 m 0 ls []) := by
  obtain ⟨hx, hb, hml, hown, hts, hr, hlk, hK, hN, hA, hX⟩ := id C
  unfold b_X6_text_0 at h
  refine lv_aload_n hx hb dX6_text_0 rfl (lv_at hl 0 rfl) ?_
  refine gf_6_12 C hP (iL (by decide)) (by decide) wd_894 dX6_text_1 ?_
  refine lv_bipush (v := 6) hx hb dX6_text_4 (by decide) ?_
  refine lv_icmp_ne (tgt := 12) hx hb dX6_text_6 (by decide) (fun c6 => ?_) (fun c6 => ?_)
  · replace h := it_f c6 h
    refine lv_aload_n hx hb dX6_text_12 rfl (lv_at hl 0 rfl) ?_
    refine lv_iconst (v := 0) hx hb dX6_text_13 (by decide) ?_
    refine pf_6_22 C hP hD hS (iL (by decide)) (by decide) wd_904 dX6_text_14 (fun H locs hP hD hS => ?_)
    exact w_X6_text_17 C hP hD hS hl h
  · replace h := it_t c6 h
    refine lv_bipush (v := -4) hx hb dX6_text_9 (by decide) ?_
    exact rt_i (r := (-4 : Int32)) C hP hD hS dX6_text_11 (rw_end h)
def f_X6_text (N : Nat) (M : Mem) : Option (Int32 × Mem) := b_X6_text_0 N M
theorem c_X6_text {l : Launch} {D : va_G} {cy : Nat → ClassId} {ad : Nat → Nat} {zz : (Nat → Nat) × (Nat → Nat)} {N : Nat} {M : Mem} {rr : Int32} {M' : Mem} (h : f_X6_text N M = some (rr, M')) : CTi l D cy ad zz 100 21 yX6_text (.code yX6_text cX6_text 3 (some .int) :: tb) ({ frames := 4, cells := 0, slots := 0, locals := 87 } : Room) [.ref (ad 100)] M rr M' := by
  intro sz
  refine CX.of (by decide +kernel) (fun p e s m args below meth c H ls C hP hD hS hl => ?_) (Nat.le_of_ble_eq_true rfl)
  exact w_X6_text_0 C hP hD hS hl h
theorem ev_X6_text : yX6_text.cls = RX6 ∧ yX6_text.cls ≠ "java/lang/invoke/MethodHandle" ∧ yX6_text.cls ≠ "java/lang/invoke/VarHandle" ∧ (parseMethodDescriptor yX6_text.desc).map (fun d => d.parameters.length) = some 0 := by decide +kernel
def b_X6_two_102 (M : Mem) (x0 : Int32) (x1 : Int32) (x2 : Int32) : Option (Int32) := some (x1 * x2)
set_option maxHeartbeats 4000000 in
set_option maxRecDepth 100000 in
theorem w_X6_two_102 (C : CX p s m args meth c cX6_two 3 (some .int) RX6 D cy ad zz 100 21 A) {M : Mem} {x0 : Int32} {x1 : Int32} {x2 : Int32} {rr : Int32} {H : Heap} {locs : List Loc} (hP : va_P D vwCl (pool cy ad 100 21 M) H) (hD : va_D A (pool cy ad 100 21 M)) (hS : va_S A s.heap H locs) {ls : Array Slot} (hl : lv_has ls 3 [(1, .int x1), (2, .int x2)]) (h : b_X6_two_102 M x0 x1 x2 = some rr) : W p l e ({ frames := 0, cells := 0, slots := 0, locals := 0 } : Room) s m args below meth c H locs 0 0 (MQ below (va_Qi (fun (x : Int32) (_ : Unit) => x = rr) (fun _ t => PA D cy ad 100 21 A M t) A) args s 0 0 A) (F0 m 102 ls []) := by
  obtain ⟨hx, hb, hml, hown, hts, hr, hlk, hK, hN, hA, hX⟩ := id C
  unfold b_X6_two_102 at h
  refine lv_iload_n hx hb dX6_two_102 rfl (lv_at hl 0 rfl) ?_
  refine lv_iload_n hx hb dX6_two_103 rfl (lv_at hl 1 rfl) ?_
  refine lv_imul hx hb dX6_two_104 ?_
  exact rt_i (r := (x1 * x2)) C hP hD hS dX6_two_105 ⟨Option.some.inj h, rfl⟩
def b_X6_two_0 (M : Mem) (x0 : Int32) (x1 : Int32) (x2 : Int32) : Option (Int32) := (if x0 = 11 then (if x1 = 0 then (if x2 = 0 then some (0 : Int32) else some (1 : Int32)) else some (1 : Int32)) else (if x0 = 12 then (if x1 = 0 then some (0 : Int32) else (if x2 = 0 then some (0 : Int32) else some (1 : Int32))) else (if x0 = 13 then b_X6_two_102 M x0 x1 x2 else (if x0 = 14 then (if x2 ≤ x1 then some (0 : Int32) else some (1 : Int32)) else (if x0 = 15 then (if x1 = x2 then some (1 : Int32) else some (0 : Int32)) else (if x0 = 16 then some (x1 + x2) else (if x0 = 17 then some (x1 - x2) else b_X6_two_102 M x0 x1 x2)))))))
set_option maxHeartbeats 4000000 in
set_option maxRecDepth 100000 in
theorem w_X6_two_0 (C : CX p s m args meth c cX6_two 3 (some .int) RX6 D cy ad zz 100 21 A) {M : Mem} {x0 : Int32} {x1 : Int32} {x2 : Int32} {rr : Int32} {H : Heap} {locs : List Loc} (hP : va_P D vwCl (pool cy ad 100 21 M) H) (hD : va_D A (pool cy ad 100 21 M)) (hS : va_S A s.heap H locs) {ls : Array Slot} (hl : lv_has ls 3 [(0, .int x0), (1, .int x1), (2, .int x2)]) (h : b_X6_two_0 M x0 x1 x2 = some rr) : W p l e ({ frames := 0, cells := 0, slots := 0, locals := 0 } : Room) s m args below meth c H locs 0 0 (MQ below (va_Qi (fun (x : Int32) (_ : Unit) => x = rr) (fun _ t => PA D cy ad 100 21 A M t) A) args s 0 0 A) (F0 m 0 ls []) := by
  obtain ⟨hx, hb, hml, hown, hts, hr, hlk, hK, hN, hA, hX⟩ := id C
  unfold b_X6_two_0 at h
  refine lv_iload_n hx hb dX6_two_0 rfl (lv_at hl 0 rfl) ?_
  by_cases c1_11 : x0 = 11
  · replace h := it_t c1_11 h
    refine lv_tableIn (off := 43) (tgt := 44) hx hb dX6_two_1 (by rw [c1_11]; decide) (by rw [c1_11]; decide) (by rw [c1_11]; rfl) (by decide) ?_
    refine lv_iload_n hx hb dX6_two_44 rfl (lv_at hl 1 rfl) ?_
    refine lv_if_ne (tgt := 52) hx hb dX6_two_45 (by decide) (fun c45 => ?_) (fun c45 => ?_)
    · replace h := it_f c45 h
      refine lv_iconst (v := 1) hx hb dX6_two_52 (by decide) ?_
      refine lv_goto (tgt := 57) hx hb dX6_two_53 (by decide) ?_
      exact rt_i (r := (1 : Int32)) C hP hD hS dX6_two_57 ⟨Option.some.inj h, rfl⟩
    · replace h := it_t c45 h
      refine lv_iload_n hx hb dX6_two_48 rfl (lv_at hl 2 rfl) ?_
      refine lv_if_eq (tgt := 56) hx hb dX6_two_49 (by decide) (fun c49 => ?_) (fun c49 => ?_)
      · replace h := it_t c49 h
        refine lv_iconst (v := 0) hx hb dX6_two_56 (by decide) ?_
        exact rt_i (r := (0 : Int32)) C hP hD hS dX6_two_57 ⟨Option.some.inj h, rfl⟩
      · replace h := it_f c49 h
        refine lv_iconst (v := 1) hx hb dX6_two_52 (by decide) ?_
        refine lv_goto (tgt := 57) hx hb dX6_two_53 (by decide) ?_
        exact rt_i (r := (1 : Int32)) C hP hD hS dX6_two_57 ⟨Option.some.inj h, rfl⟩
  · replace h := it_f c1_11 h
    by_cases c1_12 : x0 = 12
    · replace h := it_t c1_12 h
      refine lv_tableIn (off := 57) (tgt := 58) hx hb dX6_two_1 (by rw [c1_12]; decide) (by rw [c1_12]; decide) (by rw [c1_12]; rfl) (by decide) ?_
      refine lv_iload_n hx hb dX6_two_58 rfl (lv_at hl 1 rfl) ?_
      refine lv_if_eq (tgt := 70) hx hb dX6_two_59 (by decide) (fun c59 => ?_) (fun c59 => ?_)
      · replace h := it_t c59 h
        refine lv_iconst (v := 0) hx hb dX6_two_70 (by decide) ?_
        exact rt_i (r := (0 : Int32)) C hP hD hS dX6_two_71 ⟨Option.some.inj h, rfl⟩
      · replace h := it_f c59 h
        refine lv_iload_n hx hb dX6_two_62 rfl (lv_at hl 2 rfl) ?_
        refine lv_if_eq (tgt := 70) hx hb dX6_two_63 (by decide) (fun c63 => ?_) (fun c63 => ?_)
        · replace h := it_t c63 h
          refine lv_iconst (v := 0) hx hb dX6_two_70 (by decide) ?_
          exact rt_i (r := (0 : Int32)) C hP hD hS dX6_two_71 ⟨Option.some.inj h, rfl⟩
        · replace h := it_f c63 h
          refine lv_iconst (v := 1) hx hb dX6_two_66 (by decide) ?_
          refine lv_goto (tgt := 71) hx hb dX6_two_67 (by decide) ?_
          exact rt_i (r := (1 : Int32)) C hP hD hS dX6_two_71 ⟨Option.some.inj h, rfl⟩
    · replace h := it_f c1_12 h
      by_cases c1_13 : x0 = 13
      · replace h := it_t c1_13 h
        refine lv_tableIn (off := 101) (tgt := 102) hx hb dX6_two_1 (by rw [c1_13]; decide) (by rw [c1_13]; decide) (by rw [c1_13]; rfl) (by decide) ?_
        exact w_X6_two_102 C hP hD hS (lv_sub hl [1, 2] rfl) h
      · replace h := it_f c1_13 h
        by_cases c1_14 : x0 = 14
        · replace h := it_t c1_14 h
          refine lv_tableIn (off := 71) (tgt := 72) hx hb dX6_two_1 (by rw [c1_14]; decide) (by rw [c1_14]; decide) (by rw [c1_14]; rfl) (by decide) ?_
          refine lv_iload_n hx hb dX6_two_72 rfl (lv_at hl 1 rfl) ?_
          refine lv_iload_n hx hb dX6_two_73 rfl (lv_at hl 2 rfl) ?_
          refine lv_icmp_ge (tgt := 81) hx hb dX6_two_74 (by decide) (fun c74 => ?_) (fun c74 => ?_)
          · replace h := it_t c74 h
            refine lv_iconst (v := 0) hx hb dX6_two_81 (by decide) ?_
            exact rt_i (r := (0 : Int32)) C hP hD hS dX6_two_82 ⟨Option.some.inj h, rfl⟩
          · replace h := it_f c74 h
            refine lv_iconst (v := 1) hx hb dX6_two_77 (by decide) ?_
            refine lv_goto (tgt := 82) hx hb dX6_two_78 (by decide) ?_
            exact rt_i (r := (1 : Int32)) C hP hD hS dX6_two_82 ⟨Option.some.inj h, rfl⟩
        · replace h := it_f c1_14 h
          by_cases c1_15 : x0 = 15
          · replace h := it_t c1_15 h
            refine lv_tableIn (off := 82) (tgt := 83) hx hb dX6_two_1 (by rw [c1_15]; decide) (by rw [c1_15]; decide) (by rw [c1_15]; rfl) (by decide) ?_
            refine lv_iload_n hx hb dX6_two_83 rfl (lv_at hl 1 rfl) ?_
            refine lv_iload_n hx hb dX6_two_84 rfl (lv_at hl 2 rfl) ?_
            refine lv_icmp_ne (tgt := 92) hx hb dX6_two_85 (by decide) (fun c85 => ?_) (fun c85 => ?_)
            · replace h := it_f c85 h
              refine lv_iconst (v := 0) hx hb dX6_two_92 (by decide) ?_
              exact rt_i (r := (0 : Int32)) C hP hD hS dX6_two_93 ⟨Option.some.inj h, rfl⟩
            · replace h := it_t c85 h
              refine lv_iconst (v := 1) hx hb dX6_two_88 (by decide) ?_
              refine lv_goto (tgt := 93) hx hb dX6_two_89 (by decide) ?_
              exact rt_i (r := (1 : Int32)) C hP hD hS dX6_two_93 ⟨Option.some.inj h, rfl⟩
          · replace h := it_f c1_15 h
            by_cases c1_16 : x0 = 16
            · replace h := it_t c1_16 h
              refine lv_tableIn (off := 93) (tgt := 94) hx hb dX6_two_1 (by rw [c1_16]; decide) (by rw [c1_16]; decide) (by rw [c1_16]; rfl) (by decide) ?_
              refine lv_iload_n hx hb dX6_two_94 rfl (lv_at hl 1 rfl) ?_
              refine lv_iload_n hx hb dX6_two_95 rfl (lv_at hl 2 rfl) ?_
              refine lv_iadd hx hb dX6_two_96 ?_
              exact rt_i (r := (x1 + x2)) C hP hD hS dX6_two_97 ⟨Option.some.inj h, rfl⟩
            · replace h := it_f c1_16 h
              by_cases c1_17 : x0 = 17
              · replace h := it_t c1_17 h
                refine lv_tableIn (off := 97) (tgt := 98) hx hb dX6_two_1 (by rw [c1_17]; decide) (by rw [c1_17]; decide) (by rw [c1_17]; rfl) (by decide) ?_
                refine lv_iload_n hx hb dX6_two_98 rfl (lv_at hl 1 rfl) ?_
                refine lv_iload_n hx hb dX6_two_99 rfl (lv_at hl 2 rfl) ?_
                refine lv_isub hx hb dX6_two_100 ?_
                exact rt_i (r := (x1 - x2)) C hP hD hS dX6_two_101 ⟨Option.some.inj h, rfl⟩
              · replace h := it_f c1_17 h
                have e1_11 : x0.toInt ≠ 11 := fun q => c1_11 (Int32.toInt_inj.mp (q.trans (by decide)))
                have e1_12 : x0.toInt ≠ 12 := fun q => c1_12 (Int32.toInt_inj.mp (q.trans (by decide)))
                have e1_13 : x0.toInt ≠ 13 := fun q => c1_13 (Int32.toInt_inj.mp (q.trans (by decide)))
                have e1_14 : x0.toInt ≠ 14 := fun q => c1_14 (Int32.toInt_inj.mp (q.trans (by decide)))
                have e1_15 : x0.toInt ≠ 15 := fun q => c1_15 (Int32.toInt_inj.mp (q.trans (by decide)))
                have e1_16 : x0.toInt ≠ 16 := fun q => c1_16 (Int32.toInt_inj.mp (q.trans (by decide)))
                have e1_17 : x0.toInt ≠ 17 := fun q => c1_17 (Int32.toInt_inj.mp (q.trans (by decide)))
                refine lv_tableOut (tgt := 102) hx hb dX6_two_1 (by omega) (by decide) ?_
                exact w_X6_two_102 C hP hD hS (lv_sub hl [1, 2] rfl) h
def f_X6_two (x0 : Int32) (x1 : Int32) (x2 : Int32) (M : Mem) : Option (Int32) := b_X6_two_0 M x0 x1 x2
theorem c_X6_two {l : Launch} {D : va_G} {cy : Nat → ClassId} {ad : Nat → Nat} {zz : (Nat → Nat) × (Nat → Nat)} {x0 : Int32} {x1 : Int32} {x2 : Int32} {M : Mem} {rr : Int32} (h : f_X6_two x0 x1 x2 M = some rr) : CTi l D cy ad zz 100 21 yX6_two (.code yX6_two cX6_two 3 (some .int) :: tb) ({ frames := 0, cells := 0, slots := 0, locals := 0 } : Room) [.int x0, .int x1, .int x2] M rr M := by
  intro sz
  refine CX.of (by decide +kernel) (fun p e s m args below meth c H ls C hP hD hS hl => ?_) (Nat.le_of_ble_eq_true rfl)
  exact w_X6_two_0 C hP hD hS hl h
theorem es_X6_two : yX6_two.cls ≠ "java/lang/invoke/MethodHandle" ∧ yX6_two.cls ≠ "java/lang/invoke/VarHandle" ∧ (parseMethodDescriptor yX6_two.desc).map (fun d => d.parameters.length) = some 3 := by decide +kernel
def b_X6_says_191 (N : Nat) (x1 : Int32) (k16 : Int32 → Int32 → Mem → Option (Int32 × Mem)) (x2 : Int32) (x3 : Int32) (M : Mem) : Option (Int32 × Mem) := k16 x2 (x3 + (1 : Int32)) M
set_option maxHeartbeats 4000000 in
set_option maxRecDepth 100000 in
theorem w_X6_says_191 (C : CX p s m args meth c cX6_says 5 (some .int) RX6 D cy ad zz 100 21 A) {N : Nat} {M : Mem} {x1 : Int32} {k16 : Int32 → Int32 → Mem → Option (Int32 × Mem)} {rr : Int32} {M' : Mem} (hk16 : ∀ (x2 : Int32), ∀ (x3 : Int32), ∀ (M : Mem), ∀ (H : Heap) (locs : List Loc), va_P D vwCl (pool cy ad 100 21 M) H → va_D A (pool cy ad 100 21 M) → va_S A s.heap H locs → ∀ (ls : Array Slot), lv_has ls 5 [(0, .ref (ad 100)), (1, .int x1), (2, .int x2), (3, .int x3)] → k16 x2 x3 M = some (rr, M') → W p l e ({ frames := 1, cells := 0, slots := 0, locals := 22 } : Room) s m args below meth c H locs 0 0 (MQ below (va_Qi (fun (x : Int32) (_ : Unit) => x = rr) (fun _ t => PA D cy ad 100 21 A M' t) A) args s 0 0 A) (F0 m 16 ls [])) {x2 : Int32} {x3 : Int32} {H : Heap} {locs : List Loc} (hP : va_P D vwCl (pool cy ad 100 21 M) H) (hD : va_D A (pool cy ad 100 21 M)) (hS : va_S A s.heap H locs) {ls : Array Slot} (hl : lv_has ls 5 [(0, .ref (ad 100)), (1, .int x1), (2, .int x2), (3, .int x3)]) (h : b_X6_says_191 N x1 k16 x2 x3 M = some (rr, M')) : W p l e ({ frames := 1, cells := 0, slots := 0, locals := 22 } : Room) s m args below meth c H locs 0 0 (MQ below (va_Qi (fun (x : Int32) (_ : Unit) => x = rr) (fun _ t => PA D cy ad 100 21 A M' t) A) args s 0 0 A) (F0 m 191 ls []) := by
  obtain ⟨hx, hb, hml, hown, hts, hr, hlk, hK, hN, hA, hX⟩ := id C
  unfold b_X6_says_191 at h
  refine lv_iinc (v := (x3 + (1 : Int32))) (lv' := [(3, .int (x3 + (1 : Int32))), (0, .ref (ad 100)), (1, .int x1), (2, .int x2)]) hx hb dX6_says_191 hl (k := 3) rfl rfl (by decide) rfl (fun ls hl => ?_)
  refine lv_goto (tgt := 16) hx hb dX6_says_194 (by decide) ?_
  exact hk16 _ _ _ _ _ hP hD hS _ (lv_sub hl [1, 2, 3, 0] rfl) h
def b_X6_says_94 (N : Nat) (x1 : Int32) (k16 : Int32 → Int32 → Mem → Option (Int32 × Mem)) (x2 : Int32) (x3 : Int32) (M : Mem) : Option (Int32 × Mem) := b_X6_says_191 N x1 k16 (x2 + (1 : Int32)) x3 M
set_option maxHeartbeats 4000000 in
set_option maxRecDepth 100000 in
theorem w_X6_says_94 (C : CX p s m args meth c cX6_says 5 (some .int) RX6 D cy ad zz 100 21 A) {N : Nat} {M : Mem} {x1 : Int32} {k16 : Int32 → Int32 → Mem → Option (Int32 × Mem)} {rr : Int32} {M' : Mem} (hk16 : ∀ (x2 : Int32), ∀ (x3 : Int32), ∀ (M : Mem), ∀ (H : Heap) (locs : List Loc), va_P D vwCl (pool cy ad 100 21 M) H → va_D A (pool cy ad 100 21 M) → va_S A s.heap H locs → ∀ (ls : Array Slot), lv_has ls 5 [(0, .ref (ad 100)), (1, .int x1), (2, .int x2), (3, .int x3)] → k16 x2 x3 M = some (rr, M') → W p l e ({ frames := 1, cells := 0, slots := 0, locals := 22 } : Room) s m args below meth c H locs 0 0 (MQ below (va_Qi (fun (x : Int32) (_ : Unit) => x = rr) (fun _ t => PA D cy ad 100 21 A M' t) A) args s 0 0 A) (F0 m 16 ls [])) {x2 : Int32} {x3 : Int32} {H : Heap} {locs : List Loc} (hP : va_P D vwCl (pool cy ad 100 21 M) H) (hD : va_D A (pool cy ad 100 21 M)) (hS : va_S A s.heap H locs) {ls : Array Slot} (hl : lv_has ls 5 [(0, .ref (ad 100)), (1, .int x1), (2, .int x2), (3, .int x3)]) (h : b_X6_says_94 N x1 k16 x2 x3 M = some (rr, M')) : W p l e ({ frames := 1, cells := 0, slots := 0, locals := 22 } : Room) s m args below meth c H locs 0 0 (MQ below (va_Qi (fun (x : Int32) (_ : Unit) => x = rr) (fun _ t => PA D cy ad 100 21 A M' t) A) args s 0 0 A) (F0 m 94 ls []) := by
  obtain ⟨hx, hb, hml, hown, hts, hr, hlk, hK, hN, hA, hX⟩ := id C
  unfold b_X6_says_94 at h
  refine lv_iinc (v := (x2 + (1 : Int32))) (lv' := [(2, .int (x2 + (1 : Int32))), (0, .ref (ad 100)), (1, .int x1), (3, .int x3)]) hx hb dX6_says_94 hl (k := 2) rfl rfl (by decide) rfl (fun ls hl => ?_)
  refine lv_goto (tgt := 191) hx hb dX6_says_97 (by decide) ?_
  exact w_X6_says_191 C hk16 hP hD hS (lv_sub hl [1, 2, 0, 3] rfl) h
def b_X6_says_93 (N : Nat) (x1 : Int32) (k16 : Int32 → Int32 → Mem → Option (Int32 × Mem)) (x2 : Int32) (x3 : Int32) (t1 : Int32) (t2 : Int32) (M : Mem) : Option (Int32 × Mem) := gd (inb t1 (len 117)) (b_X6_says_94 N x1 k16 x2 x3 (sAI M 117 t1.toNatClampNeg t2))
set_option maxHeartbeats 4000000 in
set_option maxRecDepth 100000 in
theorem w_X6_says_93 (C : CX p s m args meth c cX6_says 5 (some .int) RX6 D cy ad zz 100 21 A) {N : Nat} {M : Mem} {x1 : Int32} {k16 : Int32 → Int32 → Mem → Option (Int32 × Mem)} {rr : Int32} {M' : Mem} (hk16 : ∀ (x2 : Int32), ∀ (x3 : Int32), ∀ (M : Mem), ∀ (H : Heap) (locs : List Loc), va_P D vwCl (pool cy ad 100 21 M) H → va_D A (pool cy ad 100 21 M) → va_S A s.heap H locs → ∀ (ls : Array Slot), lv_has ls 5 [(0, .ref (ad 100)), (1, .int x1), (2, .int x2), (3, .int x3)] → k16 x2 x3 M = some (rr, M') → W p l e ({ frames := 1, cells := 0, slots := 0, locals := 22 } : Room) s m args below meth c H locs 0 0 (MQ below (va_Qi (fun (x : Int32) (_ : Unit) => x = rr) (fun _ t => PA D cy ad 100 21 A M' t) A) args s 0 0 A) (F0 m 16 ls [])) {x2 : Int32} {x3 : Int32} {t1 : Int32} {t2 : Int32} {H : Heap} {locs : List Loc} (hP : va_P D vwCl (pool cy ad 100 21 M) H) (hD : va_D A (pool cy ad 100 21 M)) (hS : va_S A s.heap H locs) {ls : Array Slot} (hl : lv_has ls 5 [(0, .ref (ad 100)), (1, .int x1), (2, .int x2), (3, .int x3)]) (h : b_X6_says_93 N x1 k16 x2 x3 t1 t2 M = some (rr, M')) : W p l e ({ frames := 1, cells := 0, slots := 0, locals := 22 } : Room) s m args below meth c H locs 0 0 (MQ below (va_Qi (fun (x : Int32) (_ : Unit) => x = rr) (fun _ t => PA D cy ad 100 21 A M' t) A) args s 0 0 A) (F0 m 93 ls [.int t2, .int t1, .ref (ad 117)]) := by
  obtain ⟨hx, hb, hml, hown, hts, hr, hlk, hK, hN, hA, hX⟩ := id C
  unfold b_X6_says_93 at h
  obtain ⟨gi1, h⟩ := gd_of h
  refine ia_st C hP hD hS (iL (by decide)) (by decide) gi1 dX6_says_93 (fun H locs hP hD hS => ?_)
  exact w_X6_says_94 C hk16 hP hD hS hl h
def b_X6_says_66 (N : Nat) (x1 : Int32) (k16 : Int32 → Int32 → Mem → Option (Int32 × Mem)) (x2 : Int32) (x3 : Int32) (x4 : Int32) (M : Mem) : Option (Int32 × Mem) := (if (11 : Int32) ≤ x4 then b_X6_says_93 N x1 k16 x2 x3 x2 (x4 - (100000 : Int32)) M else gd (inb x4 (len 118)) (b_X6_says_93 N x1 k16 x2 x3 x2 (AI M 118 x4.toNatClampNeg) M))
set_option maxHeartbeats 4000000 in
set_option maxRecDepth 100000 in
theorem w_X6_says_66 (C : CX p s m args meth c cX6_says 5 (some .int) RX6 D cy ad zz 100 21 A) {N : Nat} {M : Mem} {x1 : Int32} {k16 : Int32 → Int32 → Mem → Option (Int32 × Mem)} {rr : Int32} {M' : Mem} (hk16 : ∀ (x2 : Int32), ∀ (x3 : Int32), ∀ (M : Mem), ∀ (H : Heap) (locs : List Loc), va_P D vwCl (pool cy ad 100 21 M) H → va_D A (pool cy ad 100 21 M) → va_S A s.heap H locs → ∀ (ls : Array Slot), lv_has ls 5 [(0, .ref (ad 100)), (1, .int x1), (2, .int x2), (3, .int x3)] → k16 x2 x3 M = some (rr, M') → W p l e ({ frames := 1, cells := 0, slots := 0, locals := 22 } : Room) s m args below meth c H locs 0 0 (MQ below (va_Qi (fun (x : Int32) (_ : Unit) => x = rr) (fun _ t => PA D cy ad 100 21 A M' t) A) args s 0 0 A) (F0 m 16 ls [])) {x2 : Int32} {x3 : Int32} {x4 : Int32} {H : Heap} {locs : List Loc} (hP : va_P D vwCl (pool cy ad 100 21 M) H) (hD : va_D A (pool cy ad 100 21 M)) (hS : va_S A s.heap H locs) {ls : Array Slot} (hl : lv_has ls 5 [(0, .ref (ad 100)), (1, .int x1), (2, .int x2), (3, .int x3), (4, .int x4)]) (h : b_X6_says_66 N x1 k16 x2 x3 x4 M = some (rr, M')) : W p l e ({ frames := 1, cells := 0, slots := 0, locals := 22 } : Room) s m args below meth c H locs 0 0 (MQ below (va_Qi (fun (x : Int32) (_ : Unit) => x = rr) (fun _ t => PA D cy ad 100 21 A M' t) A) args s 0 0 A) (F0 m 66 ls []) := by
  obtain ⟨hx, hb, hml, hown, hts, hr, hlk, hK, hN, hA, hX⟩ := id C
  unfold b_X6_says_66 at h
  refine lv_aload_n hx hb dX6_says_66 rfl (lv_at hl 0 rfl) ?_
  refine gf_6_31 C hP (iL (by decide)) (by decide) wd_913 dX6_says_67 ?_
  refine lv_iload_n hx hb dX6_says_70 rfl (lv_at hl 2 rfl) ?_
  refine lv_iload hx hb dX6_says_71 (lv_at hl 4 rfl) ?_
  refine lv_bipush (v := 11) hx hb dX6_says_73 (by decide) ?_
  refine lv_icmp_ge (tgt := 88) hx hb dX6_says_75 (by decide) (fun c75 => ?_) (fun c75 => ?_)
  · replace h := it_t c75 h
    refine lv_iload hx hb dX6_says_88 (lv_at hl 4 rfl) ?_
    refine lv_ldc hx hb hown (hts _ wd_854) dX6_says_90 ?_
    refine lv_isub hx hb dX6_says_92 ?_
    exact w_X6_says_93 C hk16 hP hD hS (lv_sub hl [0, 1, 2, 3] rfl) h
  · replace h := it_f c75 h
    refine lv_aload_n hx hb dX6_says_78 rfl (lv_at hl 0 rfl) ?_
    refine gf_6_32 C hP (iL (by decide)) (by decide) wd_914 dX6_says_79 ?_
    refine lv_iload hx hb dX6_says_82 (lv_at hl 4 rfl) ?_
    obtain ⟨gi1, h⟩ := gd_of h
    refine ia_ld C hP (iL (by decide)) (by decide) gi1 dX6_says_84 ?_
    refine lv_goto (tgt := 93) hx hb dX6_says_85 (by decide) ?_
    exact w_X6_says_93 C hk16 hP hD hS (lv_sub hl [0, 1, 2, 3] rfl) h
def b_X6_says_158 (N : Nat) (x1 : Int32) (k16 : Int32 → Int32 → Mem → Option (Int32 × Mem)) (x2 : Int32) (x3 : Int32) (M : Mem) : Option (Int32 × Mem) := b_X6_says_191 N x1 k16 x2 x3 M
set_option maxHeartbeats 4000000 in
set_option maxRecDepth 100000 in
theorem w_X6_says_158 (C : CX p s m args meth c cX6_says 5 (some .int) RX6 D cy ad zz 100 21 A) {N : Nat} {M : Mem} {x1 : Int32} {k16 : Int32 → Int32 → Mem → Option (Int32 × Mem)} {rr : Int32} {M' : Mem} (hk16 : ∀ (x2 : Int32), ∀ (x3 : Int32), ∀ (M : Mem), ∀ (H : Heap) (locs : List Loc), va_P D vwCl (pool cy ad 100 21 M) H → va_D A (pool cy ad 100 21 M) → va_S A s.heap H locs → ∀ (ls : Array Slot), lv_has ls 5 [(0, .ref (ad 100)), (1, .int x1), (2, .int x2), (3, .int x3)] → k16 x2 x3 M = some (rr, M') → W p l e ({ frames := 1, cells := 0, slots := 0, locals := 22 } : Room) s m args below meth c H locs 0 0 (MQ below (va_Qi (fun (x : Int32) (_ : Unit) => x = rr) (fun _ t => PA D cy ad 100 21 A M' t) A) args s 0 0 A) (F0 m 16 ls [])) {x2 : Int32} {x3 : Int32} {H : Heap} {locs : List Loc} (hP : va_P D vwCl (pool cy ad 100 21 M) H) (hD : va_D A (pool cy ad 100 21 M)) (hS : va_S A s.heap H locs) {ls : Array Slot} (hl : lv_has ls 5 [(0, .ref (ad 100)), (1, .int x1), (2, .int x2), (3, .int x3)]) (h : b_X6_says_158 N x1 k16 x2 x3 M = some (rr, M')) : W p l e ({ frames := 1, cells := 0, slots := 0, locals := 22 } : Room) s m args below meth c H locs 0 0 (MQ below (va_Qi (fun (x : Int32) (_ : Unit) => x = rr) (fun _ t => PA D cy ad 100 21 A M' t) A) args s 0 0 A) (F0 m 158 ls []) := by
  obtain ⟨hx, hb, hml, hown, hts, hr, hlk, hK, hN, hA, hX⟩ := id C
  unfold b_X6_says_158 at h
  refine lv_goto (tgt := 191) hx hb dX6_says_158 (by decide) ?_
  exact w_X6_says_191 C hk16 hP hD hS hl h
def b_X6_says_131 (N : Nat) (x1 : Int32) (k16 : Int32 → Int32 → Mem → Option (Int32 × Mem)) (x2 : Int32) (x3 : Int32) (M : Mem) : Option (Int32 × Mem) := b_X6_says_191 N x1 k16 x2 x3 M
set_option maxHeartbeats 4000000 in
set_option maxRecDepth 100000 in
theorem w_X6_says_131 (C : CX p s m args meth c cX6_says 5 (some .int) RX6 D cy ad zz 100 21 A) {N : Nat} {M : Mem} {x1 : Int32} {k16 : Int32 → Int32 → Mem → Option (Int32 × Mem)} {rr : Int32} {M' : Mem} (hk16 : ∀ (x2 : Int32), ∀ (x3 : Int32), ∀ (M : Mem), ∀ (H : Heap) (locs : List Loc), va_P D vwCl (pool cy ad 100 21 M) H → va_D A (pool cy ad 100 21 M) → va_S A s.heap H locs → ∀ (ls : Array Slot), lv_has ls 5 [(0, .ref (ad 100)), (1, .int x1), (2, .int x2), (3, .int x3)] → k16 x2 x3 M = some (rr, M') → W p l e ({ frames := 1, cells := 0, slots := 0, locals := 22 } : Room) s m args below meth c H locs 0 0 (MQ below (va_Qi (fun (x : Int32) (_ : Unit) => x = rr) (fun _ t => PA D cy ad 100 21 A M' t) A) args s 0 0 A) (F0 m 16 ls [])) {x2 : Int32} {x3 : Int32} {H : Heap} {locs : List Loc} (hP : va_P D vwCl (pool cy ad 100 21 M) H) (hD : va_D A (pool cy ad 100 21 M)) (hS : va_S A s.heap H locs) {ls : Array Slot} (hl : lv_has ls 5 [(0, .ref (ad 100)), (1, .int x1), (2, .int x2), (3, .int x3)]) (h : b_X6_says_131 N x1 k16 x2 x3 M = some (rr, M')) : W p l e ({ frames := 1, cells := 0, slots := 0, locals := 22 } : Room) s m args below meth c H locs 0 0 (MQ below (va_Qi (fun (x : Int32) (_ : Unit) => x = rr) (fun _ t => PA D cy ad 100 21 A M' t) A) args s 0 0 A) (F0 m 131 ls []) := by
  obtain ⟨hx, hb, hml, hown, hts, hr, hlk, hK, hN, hA, hX⟩ := id C
  unfold b_X6_says_131 at h
  refine lv_goto (tgt := 191) hx hb dX6_says_131 (by decide) ?_
  exact w_X6_says_191 C hk16 hP hD hS hl h
def b_X6_says_130 (N : Nat) (x1 : Int32) (k16 : Int32 → Int32 → Mem → Option (Int32 × Mem)) (x2 : Int32) (x3 : Int32) (t1 : Int32) (t2 : Int32) (M : Mem) : Option (Int32 × Mem) := gd (inb t1 (len 117)) (b_X6_says_131 N x1 k16 x2 x3 (sAI M 117 t1.toNatClampNeg t2))
set_option maxHeartbeats 4000000 in
set_option maxRecDepth 100000 in
theorem w_X6_says_130 (C : CX p s m args meth c cX6_says 5 (some .int) RX6 D cy ad zz 100 21 A) {N : Nat} {M : Mem} {x1 : Int32} {k16 : Int32 → Int32 → Mem → Option (Int32 × Mem)} {rr : Int32} {M' : Mem} (hk16 : ∀ (x2 : Int32), ∀ (x3 : Int32), ∀ (M : Mem), ∀ (H : Heap) (locs : List Loc), va_P D vwCl (pool cy ad 100 21 M) H → va_D A (pool cy ad 100 21 M) → va_S A s.heap H locs → ∀ (ls : Array Slot), lv_has ls 5 [(0, .ref (ad 100)), (1, .int x1), (2, .int x2), (3, .int x3)] → k16 x2 x3 M = some (rr, M') → W p l e ({ frames := 1, cells := 0, slots := 0, locals := 22 } : Room) s m args below meth c H locs 0 0 (MQ below (va_Qi (fun (x : Int32) (_ : Unit) => x = rr) (fun _ t => PA D cy ad 100 21 A M' t) A) args s 0 0 A) (F0 m 16 ls [])) {x2 : Int32} {x3 : Int32} {t1 : Int32} {t2 : Int32} {H : Heap} {locs : List Loc} (hP : va_P D vwCl (pool cy ad 100 21 M) H) (hD : va_D A (pool cy ad 100 21 M)) (hS : va_S A s.heap H locs) {ls : Array Slot} (hl : lv_has ls 5 [(0, .ref (ad 100)), (1, .int x1), (2, .int x2), (3, .int x3)]) (h : b_X6_says_130 N x1 k16 x2 x3 t1 t2 M = some (rr, M')) : W p l e ({ frames := 1, cells := 0, slots := 0, locals := 22 } : Room) s m args below meth c H locs 0 0 (MQ below (va_Qi (fun (x : Int32) (_ : Unit) => x = rr) (fun _ t => PA D cy ad 100 21 A M' t) A) args s 0 0 A) (F0 m 130 ls [.int t2, .int t1, .ref (ad 117)]) := by
  obtain ⟨hx, hb, hml, hown, hts, hr, hlk, hK, hN, hA, hX⟩ := id C
  unfold b_X6_says_130 at h
  obtain ⟨gi1, h⟩ := gd_of h
  refine ia_st C hP hD hS (iL (by decide)) (by decide) gi1 dX6_says_130 (fun H locs hP hD hS => ?_)
  exact w_X6_says_131 C hk16 hP hD hS hl h
def b_X6_says_52 (N : Nat) (x1 : Int32) (k16 : Int32 → Int32 → Mem → Option (Int32 × Mem)) (x2 : Int32) (x3 : Int32) (x4 : Int32) (M : Mem) : Option (Int32 × Mem) := (if (100000 : Int32) ≤ x4 then b_X6_says_66 N x1 k16 x2 x3 x4 M else (if (11 : Int32) ≤ x4 then (if x4 = (13 : Int32) then gd (inb (x2 - (1 : Int32)) (len 117)) ((if (AI M 117 (x2 - (1 : Int32)).toNatClampNeg) = 0 then b_X6_says_130 N x1 k16 x2 x3 (x2 - (1 : Int32)) (1 : Int32) M else b_X6_says_130 N x1 k16 x2 x3 (x2 - (1 : Int32)) (0 : Int32) M)) else (if x4 = (19 : Int32) then gd (inb (x2 - (1 : Int32)) (len 117)) (gd (inb (x2 - (1 : Int32)) (len 117)) (b_X6_says_158 N x1 k16 x2 x3 (sAI M 117 (x2 - (1 : Int32)).toNatClampNeg (-(AI M 117 (x2 - (1 : Int32)).toNatClampNeg))))) else gd (inb ((x2 + (-1 : Int32)) - (1 : Int32)) (len 117)) (gd (inb (x2 + (-1 : Int32)) (len 117)) ((f_X6_two x4 (AI M 117 ((x2 + (-1 : Int32)) - (1 : Int32)).toNatClampNeg) (AI M 117 (x2 + (-1 : Int32)).toNatClampNeg) M).bind fun r187 => gd (inb ((x2 + (-1 : Int32)) - (1 : Int32)) (len 117)) (b_X6_says_191 N x1 k16 (x2 + (-1 : Int32)) x3 (sAI M 117 ((x2 + (-1 : Int32)) - (1 : Int32)).toNatClampNeg r187)))))) else b_X6_says_66 N x1 k16 x2 x3 x4 M))
set_option maxHeartbeats 4000000 in
set_option maxRecDepth 100000 in
theorem w_X6_says_52 (C : CX p s m args meth c cX6_says 5 (some .int) RX6 D cy ad zz 100 21 A) {N : Nat} {M : Mem} {x1 : Int32} {k16 : Int32 → Int32 → Mem → Option (Int32 × Mem)} {rr : Int32} {M' : Mem} (hk16 : ∀ (x2 : Int32), ∀ (x3 : Int32), ∀ (M : Mem), ∀ (H : Heap) (locs : List Loc), va_P D vwCl (pool cy ad 100 21 M) H → va_D A (pool cy ad 100 21 M) → va_S A s.heap H locs → ∀ (ls : Array Slot), lv_has ls 5 [(0, .ref (ad 100)), (1, .int x1), (2, .int x2), (3, .int x3)] → k16 x2 x3 M = some (rr, M') → W p l e ({ frames := 1, cells := 0, slots := 0, locals := 22 } : Room) s m args below meth c H locs 0 0 (MQ below (va_Qi (fun (x : Int32) (_ : Unit) => x = rr) (fun _ t => PA D cy ad 100 21 A M' t) A) args s 0 0 A) (F0 m 16 ls [])) {x2 : Int32} {x3 : Int32} {x4 : Int32} {H : Heap} {locs : List Loc} (hP : va_P D vwCl (pool cy ad 100 21 M) H) (hD : va_D A (pool cy ad 100 21 M)) (hS : va_S A s.heap H locs) {ls : Array Slot} (hl : lv_has ls 5 [(0, .ref (ad 100)), (1, .int x1), (2, .int x2), (3, .int x3), (4, .int x4)]) (h : b_X6_says_52 N x1 k16 x2 x3 x4 M = some (rr, M')) : W p l e ({ frames := 1, cells := 0, slots := 0, locals := 22 } : Room) s m args below meth c H locs 0 0 (MQ below (va_Qi (fun (x : Int32) (_ : Unit) => x = rr) (fun _ t => PA D cy ad 100 21 A M' t) A) args s 0 0 A) (F0 m 52 ls []) := by
  obtain ⟨hx, hb, hml, hown, hts, hr, hlk, hK, hN, hA, hX⟩ := id C
  unfold b_X6_says_52 at h
  refine lv_iload hx hb dX6_says_52 (lv_at hl 4 rfl) ?_
  refine lv_ldc hx hb hown (hts _ wd_854) dX6_says_54 ?_
  refine lv_icmp_ge (tgt := 66) hx hb dX6_says_56 (by decide) (fun c56 => ?_) (fun c56 => ?_)
  · replace h := it_t c56 h
    exact w_X6_says_66 C hk16 hP hD hS hl h
  · replace h := it_f c56 h
    refine lv_iload hx hb dX6_says_59 (lv_at hl 4 rfl) ?_
    refine lv_bipush (v := 11) hx hb dX6_says_61 (by decide) ?_
    refine lv_icmp_ge (tgt := 100) hx hb dX6_says_63 (by decide) (fun c63 => ?_) (fun c63 => ?_)
    · replace h := it_t c63 h
      refine lv_iload hx hb dX6_says_100 (lv_at hl 4 rfl) ?_
      refine lv_bipush (v := 13) hx hb dX6_says_102 (by decide) ?_
      refine lv_icmp_ne (tgt := 134) hx hb dX6_says_104 (by decide) (fun c104 => ?_) (fun c104 => ?_)
      · replace h := it_f c104 h
        refine lv_iload hx hb dX6_says_134 (lv_at hl 4 rfl) ?_
        refine lv_bipush (v := 19) hx hb dX6_says_136 (by decide) ?_
        refine lv_icmp_ne (tgt := 161) hx hb dX6_says_138 (by decide) (fun c138 => ?_) (fun c138 => ?_)
        · replace h := it_f c138 h
          refine lv_iinc (v := (x2 + (-1 : Int32))) (lv' := [(2, .int (x2 + (-1 : Int32))), (0, .ref (ad 100)), (1, .int x1), (3, .int x3), (4, .int x4)]) hx hb dX6_says_161 hl (k := 2) rfl rfl (by decide) rfl (fun ls hl => ?_)
          refine lv_aload_n hx hb dX6_says_164 rfl (lv_at hl 1 rfl) ?_
          refine gf_6_31 C hP (iL (by decide)) (by decide) wd_913 dX6_says_165 ?_
          refine lv_iload_n hx hb dX6_says_168 rfl (lv_at hl 0 rfl) ?_
          refine lv_iconst (v := 1) hx hb dX6_says_169 (by decide) ?_
          refine lv_isub hx hb dX6_says_170 ?_
          refine lv_iload hx hb dX6_says_171 (lv_at hl 4 rfl) ?_
          refine lv_aload_n hx hb dX6_says_173 rfl (lv_at hl 1 rfl) ?_
          refine gf_6_31 C hP (iL (by decide)) (by decide) wd_913 dX6_says_174 ?_
          refine lv_iload_n hx hb dX6_says_177 rfl (lv_at hl 0 rfl) ?_
          refine lv_iconst (v := 1) hx hb dX6_says_178 (by decide) ?_
          refine lv_isub hx hb dX6_says_179 ?_
          obtain ⟨gi1, h⟩ := gd_of h
          refine ia_ld C hP (iL (by decide)) (by decide) gi1 dX6_says_180 ?_
          refine lv_aload_n hx hb dX6_says_181 rfl (lv_at hl 1 rfl) ?_
          refine gf_6_31 C hP (iL (by decide)) (by decide) wd_913 dX6_says_182 ?_
          refine lv_iload_n hx hb dX6_says_185 rfl (lv_at hl 0 rfl) ?_
          obtain ⟨gi2, h⟩ := gd_of h
          refine ia_ld C hP (iL (by decide)) (by decide) gi2 dX6_says_186 ?_
          obtain ⟨r187, g187, h⟩ := bd_of h
          refine call_iS (As := [.int x4, .int (AI M 117 ((x2 + (-1 : Int32)) - (1 : Int32)).toNatClampNeg), .int (AI M 117 (x2 + (-1 : Int32)).toNatClampNeg)]) (rest := [.int ((x2 + (-1 : Int32)) - (1 : Int32)), .ref (ad 117)]) C hP hD hS (c_X6_two g187) (gS wd_1046 wd_1047 wd_75 wd_1048) es_X6_two ⟨rfl, rfl⟩ ⟨Nat.le_of_ble_eq_true rfl, Nat.le_of_ble_eq_true rfl⟩ hl.1 rfl (Nat.le_of_ble_eq_true rfl) dX6_says_187 (fun H locs hP hD hS => ?_)
          obtain ⟨gi3, h⟩ := gd_of h
          refine ia_st C hP hD hS (iL (by decide)) (by decide) gi3 dX6_says_190 (fun H locs hP hD hS => ?_)
          exact w_X6_says_191 C hk16 hP hD hS (lv_sub hl [1, 2, 0, 3] rfl) h
        · replace h := it_t c138 h
          refine lv_aload_n hx hb dX6_says_141 rfl (lv_at hl 0 rfl) ?_
          refine gf_6_31 C hP (iL (by decide)) (by decide) wd_913 dX6_says_142 ?_
          refine lv_iload_n hx hb dX6_says_145 rfl (lv_at hl 2 rfl) ?_
          refine lv_iconst (v := 1) hx hb dX6_says_146 (by decide) ?_
          refine lv_isub hx hb dX6_says_147 ?_
          refine lv_aload_n hx hb dX6_says_148 rfl (lv_at hl 0 rfl) ?_
          refine gf_6_31 C hP (iL (by decide)) (by decide) wd_913 dX6_says_149 ?_
          refine lv_iload_n hx hb dX6_says_152 rfl (lv_at hl 2 rfl) ?_
          refine lv_iconst (v := 1) hx hb dX6_says_153 (by decide) ?_
          refine lv_isub hx hb dX6_says_154 ?_
          obtain ⟨gi4, h⟩ := gd_of h
          refine ia_ld C hP (iL (by decide)) (by decide) gi4 dX6_says_155 ?_
          refine lv_ineg hx hb dX6_says_156 ?_
          obtain ⟨gi5, h⟩ := gd_of h
          refine ia_st C hP hD hS (iL (by decide)) (by decide) gi5 dX6_says_157 (fun H locs hP hD hS => ?_)
          exact w_X6_says_158 C hk16 hP hD hS (lv_sub hl [0, 1, 2, 3] rfl) h
      · replace h := it_t c104 h
        refine lv_aload_n hx hb dX6_says_107 rfl (lv_at hl 0 rfl) ?_
        refine gf_6_31 C hP (iL (by decide)) (by decide) wd_913 dX6_says_108 ?_
        refine lv_iload_n hx hb dX6_says_111 rfl (lv_at hl 2 rfl) ?_
        refine lv_iconst (v := 1) hx hb dX6_says_112 (by decide) ?_
        refine lv_isub hx hb dX6_says_113 ?_
        refine lv_aload_n hx hb dX6_says_114 rfl (lv_at hl 0 rfl) ?_
        refine gf_6_31 C hP (iL (by decide)) (by decide) wd_913 dX6_says_115 ?_
        refine lv_iload_n hx hb dX6_says_118 rfl (lv_at hl 2 rfl) ?_
        refine lv_iconst (v := 1) hx hb dX6_says_119 (by decide) ?_
        refine lv_isub hx hb dX6_says_120 ?_
        obtain ⟨gi6, h⟩ := gd_of h
        refine ia_ld C hP (iL (by decide)) (by decide) gi6 dX6_says_121 ?_
        refine lv_if_ne (tgt := 129) hx hb dX6_says_122 (by decide) (fun c122 => ?_) (fun c122 => ?_)
        · replace h := it_f c122 h
          refine lv_iconst (v := 0) hx hb dX6_says_129 (by decide) ?_
          exact w_X6_says_130 C hk16 hP hD hS (lv_sub hl [0, 1, 2, 3] rfl) h
        · replace h := it_t c122 h
          refine lv_iconst (v := 1) hx hb dX6_says_125 (by decide) ?_
          refine lv_goto (tgt := 130) hx hb dX6_says_126 (by decide) ?_
          exact w_X6_says_130 C hk16 hP hD hS (lv_sub hl [0, 1, 2, 3] rfl) h
    · replace h := it_f c63 h
      exact w_X6_says_66 C hk16 hP hD hS hl h
def b_X6_says_16 (N : Nat) (x1 : Int32) : Nat → Int32 → Int32 → Mem → Option (Int32 × Mem)
  | 0, _, _, _ => none
  | fu + 1, x2, x3, M => gd (inb ((((4 : Int32) * (FI M 100 13)) + x1) + (1 : Int32)) (len 108)) ((if (AI M 108 ((((4 : Int32) * (FI M 100 13)) + x1) + (1 : Int32)).toNatClampNeg) ≤ x3 then some ((AI M 117 (0 : Int32).toNatClampNeg), M) else gd (inb (((200 : Int32) * (FI M 100 13)) + x3) (len 107)) (b_X6_says_52 N x1 (b_X6_says_16 N x1 fu) x2 x3 (AI M 107 (((200 : Int32) * (FI M 100 13)) + x3).toNatClampNeg) M)))
set_option maxHeartbeats 4000000 in
set_option maxRecDepth 100000 in
theorem w_X6_says_16 (C : CX p s m args meth c cX6_says 5 (some .int) RX6 D cy ad zz 100 21 A) {N : Nat} {x1 : Int32} {rr : Int32} {M' : Mem}  : ∀ (fu : Nat), ∀ (x2 : Int32), ∀ (x3 : Int32), ∀ (M : Mem), ∀ (H : Heap) (locs : List Loc), va_P D vwCl (pool cy ad 100 21 M) H → va_D A (pool cy ad 100 21 M) → va_S A s.heap H locs → ∀ (ls : Array Slot), lv_has ls 5 [(0, .ref (ad 100)), (1, .int x1), (2, .int x2), (3, .int x3)] → b_X6_says_16 N x1 fu x2 x3 M = some (rr, M') → W p l e ({ frames := 1, cells := 0, slots := 0, locals := 22 } : Room) s m args below meth c H locs 0 0 (MQ below (va_Qi (fun (x : Int32) (_ : Unit) => x = rr) (fun _ t => PA D cy ad 100 21 A M' t) A) args s 0 0 A) (F0 m 16 ls []) := by
  obtain ⟨hx, hb, hml, hown, hts, hr, hlk, hK, hN, hA, hX⟩ := id C
  intro fu
  induction fu with
  | zero =>
    intro x2 x3 M H locs hP hD hS ls hl h
    exact no_some (show none = some _ from h)
  | succ fu ih =>
    intro x2 x3 M H locs hP hD hS ls hl h
    rw [b_X6_says_16] at h
    refine lv_iload_n hx hb dX6_says_16 rfl (lv_at hl 3 rfl) ?_
    refine lv_aload_n hx hb dX6_says_17 rfl (lv_at hl 0 rfl) ?_
    refine gf_6_11 C hP (iL (by decide)) (by decide) wd_893 dX6_says_18 ?_
    refine lv_iconst (v := 4) hx hb dX6_says_21 (by decide) ?_
    refine lv_aload_n hx hb dX6_says_22 rfl (lv_at hl 0 rfl) ?_
    refine gf_6_13 C hP (iL (by decide)) (by decide) wd_895 dX6_says_23 ?_
    refine lv_imul hx hb dX6_says_26 ?_
    refine lv_iload_n hx hb dX6_says_27 rfl (lv_at hl 1 rfl) ?_
    refine lv_iadd hx hb dX6_says_28 ?_
    refine lv_iconst (v := 1) hx hb dX6_says_29 (by decide) ?_
    refine lv_iadd hx hb dX6_says_30 ?_
    obtain ⟨gi1, h⟩ := gd_of h
    refine ia_ld C hP (iL (by decide)) (by decide) gi1 dX6_says_31 ?_
    refine lv_icmp_ge (tgt := 197) hx hb dX6_says_32 (by decide) (fun c32 => ?_) (fun c32 => ?_)
    · replace h := it_t c32 h
      refine lv_aload_n hx hb dX6_says_197 rfl (lv_at hl 0 rfl) ?_
      refine gf_6_31 C hP (iL (by decide)) (by decide) wd_913 dX6_says_198 ?_
      refine lv_iconst (v := 0) hx hb dX6_says_201 (by decide) ?_
      refine ia_ld C hP (iL (by decide)) (by decide) (by decide) dX6_says_202 ?_
      exact rt_i (r := (AI M 117 (0 : Int32).toNatClampNeg)) C hP hD hS dX6_says_203 (rw_end h)
    · replace h := it_f c32 h
      refine lv_aload_n hx hb dX6_says_35 rfl (lv_at hl 0 rfl) ?_
      refine gf_6_10 C hP (iL (by decide)) (by decide) wd_892 dX6_says_36 ?_
      refine lv_sipush (v := 200) hx hb dX6_says_39 (by decide) ?_
      refine lv_aload_n hx hb dX6_says_42 rfl (lv_at hl 0 rfl) ?_
      refine gf_6_13 C hP (iL (by decide)) (by decide) wd_895 dX6_says_43 ?_
      refine lv_imul hx hb dX6_says_46 ?_
      refine lv_iload_n hx hb dX6_says_47 rfl (lv_at hl 3 rfl) ?_
      refine lv_iadd hx hb dX6_says_48 ?_
      obtain ⟨gi2, h⟩ := gd_of h
      refine ia_ld C hP (iL (by decide)) (by decide) gi2 dX6_says_49 ?_
      refine lv_istore (lv' := [(4, .int (AI M 107 (((200 : Int32) * (FI M 100 13)) + x3).toNatClampNeg)), (0, .ref (ad 100)), (1, .int x1), (2, .int x2), (3, .int x3)]) hx hb dX6_says_50 hl (by decide) rfl (fun ls hl => ?_)
      exact w_X6_says_52 C ih hP hD hS (lv_sub hl [1, 2, 3, 4, 0] rfl) h
def b_X6_says_0 (N : Nat) (x1 : Int32) (M : Mem) : Option (Int32 × Mem) := gd (inb (((4 : Int32) * (FI M 100 13)) + x1) (len 108)) (b_X6_says_16 N x1 N (0 : Int32) (AI M 108 (((4 : Int32) * (FI M 100 13)) + x1).toNatClampNeg) M)
set_option maxHeartbeats 4000000 in
set_option maxRecDepth 100000 in
theorem w_X6_says_0 (C : CX p s m args meth c cX6_says 5 (some .int) RX6 D cy ad zz 100 21 A) {N : Nat} {M : Mem} {x1 : Int32} {rr : Int32} {M' : Mem} {H : Heap} {locs : List Loc} (hP : va_P D vwCl (pool cy ad 100 21 M) H) (hD : va_D A (pool cy ad 100 21 M)) (hS : va_S A s.heap H locs) {ls : Array Slot} (hl : lv_has ls 5 [(0, .ref (ad 100)), (1, .int x1)]) (h : b_X6_says_0 N x1 M = some (rr, M')) : W p l e ({ frames := 1, cells := 0, slots := 0, locals := 22 } : Room) s m args below meth c H locs 0 0 (MQ below (va_Qi (fun (x : Int32) (_ : Unit) => x = rr) (fun _ t => PA D cy ad 100 21 A M' t) A) args s 0 0 A) (F0 m 0 ls []) := by
  obtain ⟨hx, hb, hml, hown, hts, hr, hlk, hK, hN, hA, hX⟩ := id C
  unfold b_X6_says_0 at h
  refine lv_iconst (v := 0) hx hb dX6_says_0 (by decide) ?_
  refine lv_istore_n (lv' := [(2, .int (0 : Int32)), (0, .ref (ad 100)), (1, .int x1)]) hx hb dX6_says_1 rfl hl (by decide) rfl (fun ls hl => ?_)
  refine lv_aload_n hx hb dX6_says_2 rfl (lv_at hl 1 rfl) ?_
  refine gf_6_11 C hP (iL (by decide)) (by decide) wd_893 dX6_says_3 ?_
  refine lv_iconst (v := 4) hx hb dX6_says_6 (by decide) ?_
  refine lv_aload_n hx hb dX6_says_7 rfl (lv_at hl 1 rfl) ?_
  refine gf_6_13 C hP (iL (by decide)) (by decide) wd_895 dX6_says_8 ?_
  refine lv_imul hx hb dX6_says_11 ?_
  refine lv_iload_n hx hb dX6_says_12 rfl (lv_at hl 2 rfl) ?_
  refine lv_iadd hx hb dX6_says_13 ?_
  obtain ⟨gi1, h⟩ := gd_of h
  refine ia_ld C hP (iL (by decide)) (by decide) gi1 dX6_says_14 ?_
  refine lv_istore_n (lv' := [(3, .int (AI M 108 (((4 : Int32) * (FI M 100 13)) + x1).toNatClampNeg)), (2, .int (0 : Int32)), (0, .ref (ad 100)), (1, .int x1)]) hx hb dX6_says_15 rfl hl (by decide) rfl (fun ls hl => ?_)
  exact w_X6_says_16 C N _ _ _ _ _ hP hD hS _ (lv_sub hl [2, 3, 1, 0] rfl) h
def f_X6_says (N : Nat) (x1 : Int32) (M : Mem) : Option (Int32 × Mem) := b_X6_says_0 N x1 M
theorem c_X6_says {l : Launch} {D : va_G} {cy : Nat → ClassId} {ad : Nat → Nat} {zz : (Nat → Nat) × (Nat → Nat)} {N : Nat} {x1 : Int32} {M : Mem} {rr : Int32} {M' : Mem} (h : f_X6_says N x1 M = some (rr, M')) : CTi l D cy ad zz 100 21 yX6_says (.code yX6_says cX6_says 5 (some .int) :: tb) ({ frames := 1, cells := 0, slots := 0, locals := 22 } : Room) [.ref (ad 100), .int x1] M rr M' := by
  intro sz
  refine CX.of (by decide +kernel) (fun p e s m args below meth c H ls C hP hD hS hl => ?_) (Nat.le_of_ble_eq_true rfl)
  exact w_X6_says_0 C hP hD hS hl h
theorem ev_X6_says : yX6_says.cls = RX6 ∧ yX6_says.cls ≠ "java/lang/invoke/MethodHandle" ∧ yX6_says.cls ≠ "java/lang/invoke/VarHandle" ∧ (parseMethodDescriptor yX6_says.desc).map (fun d => d.parameters.length) = some 1 := by decide +kernel
def b_X6_force_0 (x1 : Int32) (M : Mem) : Option (Int32 × Mem) := (f_X6_in x1 (0 : Int32) ((FI M 100 12) - (1 : Int32)) M).bind fun r8 => (if r8 = true then some ((FI M 100 13), (sFI M 100 13 x1)) else some ((-2 : Int32), M))
set_option maxHeartbeats 4000000 in
set_option maxRecDepth 100000 in
theorem w_X6_force_0 (C : CX p s m args meth c cX6_force 3 (some .int) RX6 D cy ad zz 100 21 A) {M : Mem} {x1 : Int32} {rr : Int32} {M' : Mem} {H : Heap} {locs : List Loc} (hP : va_P D vwCl (pool cy ad 100 21 M) H) (hD : va_D A (pool cy ad 100 21 M)) (hS : va_S A s.heap H locs) {ls : Array Slot} (hl : lv_has ls 3 [(0, .ref (ad 100)), (1, .int x1)]) (h : b_X6_force_0 x1 M = some (rr, M')) : W p l e ({ frames := 1, cells := 0, slots := 0, locals := 22 } : Room) s m args below meth c H locs 0 0 (MQ below (va_Qi (fun (x : Int32) (_ : Unit) => x = rr) (fun _ t => PA D cy ad 100 21 A M' t) A) args s 0 0 A) (F0 m 0 ls []) := by
  obtain ⟨hx, hb, hml, hown, hts, hr, hlk, hK, hN, hA, hX⟩ := id C
  unfold b_X6_force_0 at h
  refine lv_iload_n hx hb dX6_force_0 rfl (lv_at hl 1 rfl) ?_
  refine lv_iconst (v := 0) hx hb dX6_force_1 (by decide) ?_
  refine lv_aload_n hx hb dX6_force_2 rfl (lv_at hl 0 rfl) ?_
  refine gf_6_12 C hP (iL (by decide)) (by decide) wd_894 dX6_force_3 ?_
  refine lv_iconst (v := 1) hx hb dX6_force_6 (by decide) ?_
  refine lv_isub hx hb dX6_force_7 ?_
  obtain ⟨r8, g8, h⟩ := bd_of h
  refine call_iS (As := [.int x1, .int (0 : Int32), .int ((FI M 100 12) - (1 : Int32))]) (rest := []) C hP hD hS (c_X6_in g8) (gS wd_843 wd_844 wd_75 wd_845) es_X6_in ⟨rfl, rfl⟩ ⟨Nat.le_of_ble_eq_true rfl, Nat.le_of_ble_eq_true rfl⟩ hl.1 rfl (Nat.le_of_ble_eq_true rfl) dX6_force_8 (fun H locs hP hD hS => ?_)
  refine lv_if_ne (tgt := 17) hx hb dX6_force_11 (by decide) (fun c11 => ?_) (fun c11 => ?_)
  · replace h := it_t (b2i_1 c11) h
    refine lv_aload_n hx hb dX6_force_17 rfl (lv_at hl 0 rfl) ?_
    refine gf_6_13 C hP (iL (by decide)) (by decide) wd_895 dX6_force_18 ?_
    refine lv_istore_n (lv' := [(2, .int (FI M 100 13)), (0, .ref (ad 100)), (1, .int x1)]) hx hb dX6_force_21 rfl hl (by decide) rfl (fun ls hl => ?_)
    refine lv_aload_n hx hb dX6_force_22 rfl (lv_at hl 1 rfl) ?_
    refine lv_iload_n hx hb dX6_force_23 rfl (lv_at hl 2 rfl) ?_
    refine pf_6_13 C hP hD hS (iL (by decide)) (by decide) wd_895 dX6_force_24 (fun H locs hP hD hS => ?_)
    refine lv_iload_n hx hb dX6_force_27 rfl (lv_at hl 0 rfl) ?_
    exact rt_i (r := (FI M 100 13)) C hP hD hS dX6_force_28 (rw_end h)
  · replace h := it_f (b2i_n c11) h
    refine lv_bipush (v := -2) hx hb dX6_force_14 (by decide) ?_
    exact rt_i (r := (-2 : Int32)) C hP hD hS dX6_force_16 (rw_end h)
def f_X6_force (x1 : Int32) (M : Mem) : Option (Int32 × Mem) := b_X6_force_0 x1 M
theorem c_X6_force {l : Launch} {D : va_G} {cy : Nat → ClassId} {ad : Nat → Nat} {zz : (Nat → Nat) × (Nat → Nat)} {x1 : Int32} {M : Mem} {rr : Int32} {M' : Mem} (h : f_X6_force x1 M = some (rr, M')) : CTi l D cy ad zz 100 21 yX6_force (.code yX6_force cX6_force 3 (some .int) :: tb) ({ frames := 1, cells := 0, slots := 0, locals := 22 } : Room) [.ref (ad 100), .int x1] M rr M' := by
  intro sz
  refine CX.of (by decide +kernel) (fun p e s m args below meth c H ls C hP hD hS hl => ?_) (Nat.le_of_ble_eq_true rfl)
  exact w_X6_force_0 C hP hD hS hl h
theorem ev_X6_force : yX6_force.cls = RX6 ∧ yX6_force.cls ≠ "java/lang/invoke/MethodHandle" ∧ yX6_force.cls ≠ "java/lang/invoke/VarHandle" ∧ (parseMethodDescriptor yX6_force.desc).map (fun d => d.parameters.length) = some 1 := by decide +kernel
end
