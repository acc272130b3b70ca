section
variable {p : Program} {l : Launch} {e : Env} {s : State} {m : MethodId} {args : Array Value} {below : List Frame} {meth : Method} {c : Code} {D : va_G} {cy : Nat → ClassId} {ad : Nat → Nat} {zz : (Nat → Nat) × (Nat → Nat)} {A : Nat → Prop}
def b_X6_asksOf_121 (N : Nat) (x1 : Int32) (x2 : Int32) (t0 : Int32) (t1 : Int32) (t2 : Int32) (M : Mem) : Option (Int32 × Mem) := (f_X6_within t0 t1 t2 M).bind fun r121 => some (r121, M)
set_option maxHeartbeats 4000000 in
set_option maxRecDepth 100000 in
theorem w_X6_asksOf_121 (C : CX p s m args meth c cX6_asksOf 3 (some .int) RX6 D cy ad zz 100 21 A) {N : Nat} {M : Mem} {x1 : Int32} {x2 : Int32} {rr : Int32} {M' : Mem} {t0 : Int32} {t1 : Int32} {t2 : Int32} {H : Heap} {locs : List Loc} (hP : va_P D vwCl (pool cy ad 100 21 M) H) (hD : va_D A (pool cy ad 100 21 M)) (hS : va_S A s.heap H locs) {ls : Array Slot} (hl : lv_has ls 3 []) (h : b_X6_asksOf_121 N x1 x2 t0 t1 t2 M = some (rr, M')) : W p l e ({ frames := 2, cells := 0, slots := 0, locals := 46 } : Room) s m args below meth c H locs 0 0 (MQ below (va_Qi (fun (x : Int32) (_ : Unit) => x = rr) (fun _ t => PA D cy ad 100 21 A M' t) A) args s 0 0 A) (F0 m 121 ls [.int t2, .int t1, .int t0]) := by
  obtain ⟨hx, hb, hml, hown, hts, hr, hlk, hK, hN, hA, hX⟩ := id C
  unfold b_X6_asksOf_121 at h
  obtain ⟨r121, g121, h⟩ := bd_of h
  refine call_iS (As := [.int t0, .int t1, .int t2]) (rest := []) C hP hD hS (c_X6_within g121) (gS wd_1049 wd_1050 wd_75 wd_1051) es_X6_within ⟨rfl, rfl⟩ ⟨Nat.le_of_ble_eq_true rfl, Nat.le_of_ble_eq_true rfl⟩ hl.1 rfl (Nat.le_of_ble_eq_true rfl) dX6_asksOf_121 (fun H locs hP hD hS => ?_)
  exact rt_i (r := r121) C hP hD hS dX6_asksOf_124 (rw_end h)
def b_X6_asksOf_110 (N : Nat) (x1 : Int32) (x2 : Int32) (t0 : Int32) (t1 : Int32) (M : Mem) : Option (Int32 × Mem) := (if x1 = 0 then b_X6_asksOf_121 N x1 x2 t0 t1 (20 : Int32) M else b_X6_asksOf_121 N x1 x2 t0 t1 (99 : Int32) M)
set_option maxHeartbeats 4000000 in
set_option maxRecDepth 100000 in
theorem w_X6_asksOf_110 (C : CX p s m args meth c cX6_asksOf 3 (some .int) RX6 D cy ad zz 100 21 A) {N : Nat} {M : Mem} {x1 : Int32} {x2 : Int32} {rr : Int32} {M' : Mem} {t0 : Int32} {t1 : Int32} {H : Heap} {locs : List Loc} (hP : va_P D vwCl (pool cy ad 100 21 M) H) (hD : va_D A (pool cy ad 100 21 M)) (hS : va_S A s.heap H locs) {ls : Array Slot} (hl : lv_has ls 3 [(1, .int x1)]) (h : b_X6_asksOf_110 N x1 x2 t0 t1 M = some (rr, M')) : W p l e ({ frames := 2, cells := 0, slots := 0, locals := 46 } : Room) s m args below meth c H locs 0 0 (MQ below (va_Qi (fun (x : Int32) (_ : Unit) => x = rr) (fun _ t => PA D cy ad 100 21 A M' t) A) args s 0 0 A) (F0 m 110 ls [.int t1, .int t0]) := by
  obtain ⟨hx, hb, hml, hown, hts, hr, hlk, hK, hN, hA, hX⟩ := id C
  unfold b_X6_asksOf_110 at h
  refine lv_iload_n hx hb dX6_asksOf_110 rfl (lv_at hl 0 rfl) ?_
  refine lv_if_ne (tgt := 119) hx hb dX6_asksOf_111 (by decide) (fun c111 => ?_) (fun c111 => ?_)
  · replace h := it_f c111 h
    refine lv_bipush (v := 99) hx hb dX6_asksOf_119 (by decide) ?_
    exact w_X6_asksOf_121 C hP hD hS (lv_sub hl [] rfl) h
  · replace h := it_t c111 h
    refine lv_bipush (v := 20) hx hb dX6_asksOf_114 (by decide) ?_
    refine lv_goto (tgt := 121) hx hb dX6_asksOf_116 (by decide) ?_
    exact w_X6_asksOf_121 C hP hD hS (lv_sub hl [] rfl) h
def b_X6_asksOf_94 (N : Nat) (x1 : Int32) (x2 : Int32) (M : Mem) : Option (Int32 × Mem) := bd2 (f_X6_says N x1 M) fun r96 M96 => (if x1 = (1 : Int32) then b_X6_asksOf_110 N x1 x2 r96 (-99 : Int32) M96 else b_X6_asksOf_110 N x1 x2 r96 (0 : Int32) M96)
set_option maxHeartbeats 4000000 in
set_option maxRecDepth 100000 in
theorem w_X6_asksOf_94 (C : CX p s m args meth c cX6_asksOf 3 (some .int) RX6 D cy ad zz 100 21 A) {N : Nat} {M : Mem} {x1 : Int32} {x2 : Int32} {rr : Int32} {M' : Mem} {H : Heap} {locs : List Loc} (hP : va_P D vwCl (pool cy ad 100 21 M) H) (hD : va_D A (pool cy ad 100 21 M)) (hS : va_S A s.heap H locs) {ls : Array Slot} (hl : lv_has ls 3 [(0, .ref (ad 100)), (1, .int x1)]) (h : b_X6_asksOf_94 N x1 x2 M = some (rr, M')) : W p l e ({ frames := 2, cells := 0, slots := 0, locals := 46 } : Room) s m args below meth c H locs 0 0 (MQ below (va_Qi (fun (x : Int32) (_ : Unit) => x = rr) (fun _ t => PA D cy ad 100 21 A M' t) A) args s 0 0 A) (F0 m 94 ls []) := by
  obtain ⟨hx, hb, hml, hown, hts, hr, hlk, hK, hN, hA, hX⟩ := id C
  unfold b_X6_asksOf_94 at h
  refine lv_aload_n hx hb dX6_asksOf_94 rfl (lv_at hl 0 rfl) ?_
  refine lv_iload_n hx hb dX6_asksOf_95 rfl (lv_at hl 1 rfl) ?_
  obtain ⟨r96, M96, g96, h⟩ := bd2_of h
  refine call_iV (As := [.int x1]) (rest := []) C hP hD hS (c_X6_says g96) (iL (by decide)) ⟨6, _, _, ent_6 (by decide), rfl, rfl⟩ (gV wd_1042 wd_1044 wd_41 wd_75 wd_1045) ev_X6_says ⟨rfl, rfl⟩ ⟨Nat.le_of_ble_eq_true rfl, Nat.le_of_ble_eq_true rfl⟩ hl.1 rfl (Nat.le_of_ble_eq_true rfl) dX6_asksOf_96 (fun H locs hP hD hS => ?_)
  refine lv_iload_n hx hb dX6_asksOf_99 rfl (lv_at hl 1 rfl) ?_
  refine lv_iconst (v := 1) hx hb dX6_asksOf_100 (by decide) ?_
  refine lv_icmp_ne (tgt := 109) hx hb dX6_asksOf_101 (by decide) (fun c101 => ?_) (fun c101 => ?_)
  · replace h := it_f c101 h
    refine lv_iconst (v := 0) hx hb dX6_asksOf_109 (by decide) ?_
    exact w_X6_asksOf_110 C hP hD hS (lv_sub hl [1] rfl) h
  · replace h := it_t c101 h
    refine lv_bipush (v := -99) hx hb dX6_asksOf_104 (by decide) ?_
    refine lv_goto (tgt := 110) hx hb dX6_asksOf_106 (by decide) ?_
    exact w_X6_asksOf_110 C hP hD hS (lv_sub hl [1] rfl) h
def b_X6_asksOf_82 (N : Nat) (x1 : Int32) (x2 : Int32) (M : Mem) : Option (Int32 × Mem) := gd (inb x2 (len 102)) (b_X6_asksOf_94 N x1 x2 (sAI M 118 (5 : Int32).toNatClampNeg (AI M 102 x2.toNatClampNeg)))
set_option maxHeartbeats 4000000 in
set_option maxRecDepth 100000 in
theorem w_X6_asksOf_82 (C : CX p s m args meth c cX6_asksOf 3 (some .int) RX6 D cy ad zz 100 21 A) {N : Nat} {M : Mem} {x1 : Int32} {x2 : Int32} {rr : Int32} {M' : Mem} {H : Heap} {locs : List Loc} (hP : va_P D vwCl (pool cy ad 100 21 M) H) (hD : va_D A (pool cy ad 100 21 M)) (hS : va_S A s.heap H locs) {ls : Array Slot} (hl : lv_has ls 3 [(0, .ref (ad 100)), (1, .int x1), (2, .int x2)]) (h : b_X6_asksOf_82 N x1 x2 M = some (rr, M')) : W p l e ({ frames := 2, cells := 0, slots := 0, locals := 46 } : Room) s m args below meth c H locs 0 0 (MQ below (va_Qi (fun (x : Int32) (_ : Unit) => x = rr) (fun _ t => PA D cy ad 100 21 A M' t) A) args s 0 0 A) (F0 m 82 ls []) := by
  obtain ⟨hx, hb, hml, hown, hts, hr, hlk, hK, hN, hA, hX⟩ := id C
  unfold b_X6_asksOf_82 at h
  refine lv_aload_n hx hb dX6_asksOf_82 rfl (lv_at hl 0 rfl) ?_
  refine gf_6_32 C hP (iL (by decide)) (by decide) wd_914 dX6_asksOf_83 ?_
  refine lv_iconst (v := 5) hx hb dX6_asksOf_86 (by decide) ?_
  refine lv_aload_n hx hb dX6_asksOf_87 rfl (lv_at hl 0 rfl) ?_
  refine gf_6_2 C hP (iL (by decide)) (by decide) wd_884 dX6_asksOf_88 ?_
  refine lv_iload_n hx hb dX6_asksOf_91 rfl (lv_at hl 2 rfl) ?_
  obtain ⟨gi1, h⟩ := gd_of h
  refine ia_ld C hP (iL (by decide)) (by decide) gi1 dX6_asksOf_92 ?_
  refine ia_st C hP hD hS (iL (by decide)) (by decide) (by decide) dX6_asksOf_93 (fun H locs hP hD hS => ?_)
  exact w_X6_asksOf_94 C hP hD hS (lv_sub hl [0, 1] rfl) h
def b_X6_asksOf_66 (N : Nat) (x1 : Int32) (x2 : Int32) (M : Mem) : Option (Int32 × Mem) := gd (inb (((5 : Int32) * x2) + (4 : Int32)) (len 103)) (b_X6_asksOf_82 N x1 x2 (sAI M 118 (4 : Int32).toNatClampNeg (AI M 103 (((5 : Int32) * x2) + (4 : Int32)).toNatClampNeg)))
set_option maxHeartbeats 4000000 in
set_option maxRecDepth 100000 in
theorem w_X6_asksOf_66 (C : CX p s m args meth c cX6_asksOf 3 (some .int) RX6 D cy ad zz 100 21 A) {N : Nat} {M : Mem} {x1 : Int32} {x2 : Int32} {rr : Int32} {M' : Mem} {H : Heap} {locs : List Loc} (hP : va_P D vwCl (pool cy ad 100 21 M) H) (hD : va_D A (pool cy ad 100 21 M)) (hS : va_S A s.heap H locs) {ls : Array Slot} (hl : lv_has ls 3 [(0, .ref (ad 100)), (1, .int x1), (2, .int x2)]) (h : b_X6_asksOf_66 N x1 x2 M = some (rr, M')) : W p l e ({ frames := 2, cells := 0, slots := 0, locals := 46 } : Room) s m args below meth c H locs 0 0 (MQ below (va_Qi (fun (x : Int32) (_ : Unit) => x = rr) (fun _ t => PA D cy ad 100 21 A M' t) A) args s 0 0 A) (F0 m 66 ls []) := by
  obtain ⟨hx, hb, hml, hown, hts, hr, hlk, hK, hN, hA, hX⟩ := id C
  unfold b_X6_asksOf_66 at h
  refine lv_aload_n hx hb dX6_asksOf_66 rfl (lv_at hl 0 rfl) ?_
  refine gf_6_32 C hP (iL (by decide)) (by decide) wd_914 dX6_asksOf_67 ?_
  refine lv_iconst (v := 4) hx hb dX6_asksOf_70 (by decide) ?_
  refine lv_aload_n hx hb dX6_asksOf_71 rfl (lv_at hl 0 rfl) ?_
  refine gf_6_3 C hP (iL (by decide)) (by decide) wd_885 dX6_asksOf_72 ?_
  refine lv_iconst (v := 5) hx hb dX6_asksOf_75 (by decide) ?_
  refine lv_iload_n hx hb dX6_asksOf_76 rfl (lv_at hl 2 rfl) ?_
  refine lv_imul hx hb dX6_asksOf_77 ?_
  refine lv_iconst (v := 4) hx hb dX6_asksOf_78 (by decide) ?_
  refine lv_iadd hx hb dX6_asksOf_79 ?_
  obtain ⟨gi1, h⟩ := gd_of h
  refine ia_ld C hP (iL (by decide)) (by decide) gi1 dX6_asksOf_80 ?_
  refine ia_st C hP hD hS (iL (by decide)) (by decide) (by decide) dX6_asksOf_81 (fun H locs hP hD hS => ?_)
  exact w_X6_asksOf_82 C hP hD hS hl h
def b_X6_asksOf_50 (N : Nat) (x1 : Int32) (x2 : Int32) (M : Mem) : Option (Int32 × Mem) := gd (inb (((5 : Int32) * x2) + (3 : Int32)) (len 103)) (b_X6_asksOf_66 N x1 x2 (sAI M 118 (3 : Int32).toNatClampNeg (AI M 103 (((5 : Int32) * x2) + (3 : Int32)).toNatClampNeg)))
set_option maxHeartbeats 4000000 in
set_option maxRecDepth 100000 in
theorem w_X6_asksOf_50 (C : CX p s m args meth c cX6_asksOf 3 (some .int) RX6 D cy ad zz 100 21 A) {N : Nat} {M : Mem} {x1 : Int32} {x2 : Int32} {rr : Int32} {M' : Mem} {H : Heap} {locs : List Loc} (hP : va_P D vwCl (pool cy ad 100 21 M) H) (hD : va_D A (pool cy ad 100 21 M)) (hS : va_S A s.heap H locs) {ls : Array Slot} (hl : lv_has ls 3 [(0, .ref (ad 100)), (1, .int x1), (2, .int x2)]) (h : b_X6_asksOf_50 N x1 x2 M = some (rr, M')) : W p l e ({ frames := 2, cells := 0, slots := 0, locals := 46 } : Room) s m args below meth c H locs 0 0 (MQ below (va_Qi (fun (x : Int32) (_ : Unit) => x = rr) (fun _ t => PA D cy ad 100 21 A M' t) A) args s 0 0 A) (F0 m 50 ls []) := by
  obtain ⟨hx, hb, hml, hown, hts, hr, hlk, hK, hN, hA, hX⟩ := id C
  unfold b_X6_asksOf_50 at h
  refine lv_aload_n hx hb dX6_asksOf_50 rfl (lv_at hl 0 rfl) ?_
  refine gf_6_32 C hP (iL (by decide)) (by decide) wd_914 dX6_asksOf_51 ?_
  refine lv_iconst (v := 3) hx hb dX6_asksOf_54 (by decide) ?_
  refine lv_aload_n hx hb dX6_asksOf_55 rfl (lv_at hl 0 rfl) ?_
  refine gf_6_3 C hP (iL (by decide)) (by decide) wd_885 dX6_asksOf_56 ?_
  refine lv_iconst (v := 5) hx hb dX6_asksOf_59 (by decide) ?_
  refine lv_iload_n hx hb dX6_asksOf_60 rfl (lv_at hl 2 rfl) ?_
  refine lv_imul hx hb dX6_asksOf_61 ?_
  refine lv_iconst (v := 3) hx hb dX6_asksOf_62 (by decide) ?_
  refine lv_iadd hx hb dX6_asksOf_63 ?_
  obtain ⟨gi1, h⟩ := gd_of h
  refine ia_ld C hP (iL (by decide)) (by decide) gi1 dX6_asksOf_64 ?_
  refine ia_st C hP hD hS (iL (by decide)) (by decide) (by decide) dX6_asksOf_65 (fun H locs hP hD hS => ?_)
  exact w_X6_asksOf_66 C hP hD hS hl h
def b_X6_asksOf_33 (N : Nat) (x1 : Int32) (x2 : Int32) (M : Mem) : Option (Int32 × Mem) := gd (inb ((5 : Int32) * x2) (len 103)) (b_X6_asksOf_50 N x1 x2 (sAI M 118 (2 : Int32).toNatClampNeg ((AI M 103 ((5 : Int32) * x2).toNatClampNeg) / (8 : Int32))))
set_option maxHeartbeats 4000000 in
set_option maxRecDepth 100000 in
theorem w_X6_asksOf_33 (C : CX p s m args meth c cX6_asksOf 3 (some .int) RX6 D cy ad zz 100 21 A) {N : Nat} {M : Mem} {x1 : Int32} {x2 : Int32} {rr : Int32} {M' : Mem} {H : Heap} {locs : List Loc} (hP : va_P D vwCl (pool cy ad 100 21 M) H) (hD : va_D A (pool cy ad 100 21 M)) (hS : va_S A s.heap H locs) {ls : Array Slot} (hl : lv_has ls 3 [(0, .ref (ad 100)), (1, .int x1), (2, .int x2)]) (h : b_X6_asksOf_33 N x1 x2 M = some (rr, M')) : W p l e ({ frames := 2, cells := 0, slots := 0, locals := 46 } : Room) s m args below meth c H locs 0 0 (MQ below (va_Qi (fun (x : Int32) (_ : Unit) => x = rr) (fun _ t => PA D cy ad 100 21 A M' t) A) args s 0 0 A) (F0 m 33 ls []) := by
  obtain ⟨hx, hb, hml, hown, hts, hr, hlk, hK, hN, hA, hX⟩ := id C
  unfold b_X6_asksOf_33 at h
  refine lv_aload_n hx hb dX6_asksOf_33 rfl (lv_at hl 0 rfl) ?_
  refine gf_6_32 C hP (iL (by decide)) (by decide) wd_914 dX6_asksOf_34 ?_
  refine lv_iconst (v := 2) hx hb dX6_asksOf_37 (by decide) ?_
  refine lv_aload_n hx hb dX6_asksOf_38 rfl (lv_at hl 0 rfl) ?_
  refine gf_6_3 C hP (iL (by decide)) (by decide) wd_885 dX6_asksOf_39 ?_
  refine lv_iconst (v := 5) hx hb dX6_asksOf_42 (by decide) ?_
  refine lv_iload_n hx hb dX6_asksOf_43 rfl (lv_at hl 2 rfl) ?_
  refine lv_imul hx hb dX6_asksOf_44 ?_
  obtain ⟨gi1, h⟩ := gd_of h
  refine ia_ld C hP (iL (by decide)) (by decide) gi1 dX6_asksOf_45 ?_
  refine lv_bipush (v := 8) hx hb dX6_asksOf_46 (by decide) ?_
  refine lv_idiv hx hb dX6_asksOf_48 (by decide) ?_
  refine ia_st C hP hD hS (iL (by decide)) (by decide) (by decide) dX6_asksOf_49 (fun H locs hP hD hS => ?_)
  exact w_X6_asksOf_50 C hP hD hS hl h
def b_X6_asksOf_16 (N : Nat) (x1 : Int32) (x2 : Int32) (M : Mem) : Option (Int32 × Mem) := gd (inb ((5 : Int32) * x2) (len 103)) (b_X6_asksOf_33 N x1 x2 (sAI M 118 (1 : Int32).toNatClampNeg ((AI M 103 ((5 : Int32) * x2).toNatClampNeg) - (AI M 103 ((5 : Int32) * x2).toNatClampNeg) / (8 : Int32) * (8 : Int32))))
set_option maxHeartbeats 4000000 in
set_option maxRecDepth 100000 in
theorem w_X6_asksOf_16 (C : CX p s m args meth c cX6_asksOf 3 (some .int) RX6 D cy ad zz 100 21 A) {N : Nat} {M : Mem} {x1 : Int32} {x2 : Int32} {rr : Int32} {M' : Mem} {H : Heap} {locs : List Loc} (hP : va_P D vwCl (pool cy ad 100 21 M) H) (hD : va_D A (pool cy ad 100 21 M)) (hS : va_S A s.heap H locs) {ls : Array Slot} (hl : lv_has ls 3 [(0, .ref (ad 100)), (1, .int x1), (2, .int x2)]) (h : b_X6_asksOf_16 N x1 x2 M = some (rr, M')) : W p l e ({ frames := 2, cells := 0, slots := 0, locals := 46 } : Room) s m args below meth c H locs 0 0 (MQ below (va_Qi (fun (x : Int32) (_ : Unit) => x = rr) (fun _ t => PA D cy ad 100 21 A M' t) A) args s 0 0 A) (F0 m 16 ls []) := by
  obtain ⟨hx, hb, hml, hown, hts, hr, hlk, hK, hN, hA, hX⟩ := id C
  unfold b_X6_asksOf_16 at h
  refine lv_aload_n hx hb dX6_asksOf_16 rfl (lv_at hl 0 rfl) ?_
  refine gf_6_32 C hP (iL (by decide)) (by decide) wd_914 dX6_asksOf_17 ?_
  refine lv_iconst (v := 1) hx hb dX6_asksOf_20 (by decide) ?_
  refine lv_aload_n hx hb dX6_asksOf_21 rfl (lv_at hl 0 rfl) ?_
  refine gf_6_3 C hP (iL (by decide)) (by decide) wd_885 dX6_asksOf_22 ?_
  refine lv_iconst (v := 5) hx hb dX6_asksOf_25 (by decide) ?_
  refine lv_iload_n hx hb dX6_asksOf_26 rfl (lv_at hl 2 rfl) ?_
  refine lv_imul hx hb dX6_asksOf_27 ?_
  obtain ⟨gi1, h⟩ := gd_of h
  refine ia_ld C hP (iL (by decide)) (by decide) gi1 dX6_asksOf_28 ?_
  refine lv_bipush (v := 8) hx hb dX6_asksOf_29 (by decide) ?_
  refine lv_irem hx hb dX6_asksOf_31 (by decide) ?_
  refine ia_st C hP hD hS (iL (by decide)) (by decide) (by decide) dX6_asksOf_32 (fun H locs hP hD hS => ?_)
  exact w_X6_asksOf_33 C hP hD hS hl h
def b_X6_asksOf_0 (N : Nat) (x1 : Int32) (x2 : Int32) (M : Mem) : Option (Int32 × Mem) := gd (inb (((5 : Int32) * x2) + (2 : Int32)) (len 103)) (b_X6_asksOf_16 N x1 x2 (sAI M 118 (0 : Int32).toNatClampNeg (AI M 103 (((5 : Int32) * x2) + (2 : Int32)).toNatClampNeg)))
set_option maxHeartbeats 4000000 in
set_option maxRecDepth 100000 in
theorem w_X6_asksOf_0 (C : CX p s m args meth c cX6_asksOf 3 (some .int) RX6 D cy ad zz 100 21 A) {N : Nat} {M : Mem} {x1 : Int32} {x2 : Int32} {rr : Int32} {M' : Mem} {H : Heap} {locs : List Loc} (hP : va_P D vwCl (pool cy ad 100 21 M) H) (hD : va_D A (pool cy ad 100 21 M)) (hS : va_S A s.heap H locs) {ls : Array Slot} (hl : lv_has ls 3 [(0, .ref (ad 100)), (1, .int x1), (2, .int x2)]) (h : b_X6_asksOf_0 N x1 x2 M = some (rr, M')) : W p l e ({ frames := 2, cells := 0, slots := 0, locals := 46 } : Room) s m args below meth c H locs 0 0 (MQ below (va_Qi (fun (x : Int32) (_ : Unit) => x = rr) (fun _ t => PA D cy ad 100 21 A M' t) A) args s 0 0 A) (F0 m 0 ls []) := by
  obtain ⟨hx, hb, hml, hown, hts, hr, hlk, hK, hN, hA, hX⟩ := id C
  unfold b_X6_asksOf_0 at h
  refine lv_aload_n hx hb dX6_asksOf_0 rfl (lv_at hl 0 rfl) ?_
  refine gf_6_32 C hP (iL (by decide)) (by decide) wd_914 dX6_asksOf_1 ?_
  refine lv_iconst (v := 0) hx hb dX6_asksOf_4 (by decide) ?_
  refine lv_aload_n hx hb dX6_asksOf_5 rfl (lv_at hl 0 rfl) ?_
  refine gf_6_3 C hP (iL (by decide)) (by decide) wd_885 dX6_asksOf_6 ?_
  refine lv_iconst (v := 5) hx hb dX6_asksOf_9 (by decide) ?_
  refine lv_iload_n hx hb dX6_asksOf_10 rfl (lv_at hl 2 rfl) ?_
  refine lv_imul hx hb dX6_asksOf_11 ?_
  refine lv_iconst (v := 2) hx hb dX6_asksOf_12 (by decide) ?_
  refine lv_iadd hx hb dX6_asksOf_13 ?_
  obtain ⟨gi1, h⟩ := gd_of h
  refine ia_ld C hP (iL (by decide)) (by decide) gi1 dX6_asksOf_14 ?_
  refine ia_st C hP hD hS (iL (by decide)) (by decide) (by decide) dX6_asksOf_15 (fun H locs hP hD hS => ?_)
  exact w_X6_asksOf_16 C hP hD hS hl h
def f_X6_asksOf (N : Nat) (x1 : Int32) (x2 : Int32) (M : Mem) : Option (Int32 × Mem) := b_X6_asksOf_0 N x1 x2 M
theorem c_X6_asksOf {l : Launch} {D : va_G} {cy : Nat → ClassId} {ad : Nat → Nat} {zz : (Nat → Nat) × (Nat → Nat)} {N : Nat} {x1 : Int32} {x2 : Int32} {M : Mem} {rr : Int32} {M' : Mem} (h : f_X6_asksOf N x1 x2 M = some (rr, M')) : CTi l D cy ad zz 100 21 yX6_asksOf (.code yX6_asksOf cX6_asksOf 3 (some .int) :: tb) ({ frames := 2, cells := 0, slots := 0, locals := 46 } : Room) [.ref (ad 100), .int x1, .int x2] M rr M' := by
  intro sz
  refine CX.of (by decide +kernel) (fun p e s m args below meth c H ls C hP hD hS hl => ?_) (Nat.le_of_ble_eq_true rfl)
  exact w_X6_asksOf_0 C hP hD hS hl h
theorem ev_X6_asksOf : yX6_asksOf.cls = RX6 ∧ yX6_asksOf.cls ≠ "java/lang/invoke/MethodHandle" ∧ yX6_asksOf.cls ≠ "java/lang/invoke/VarHandle" ∧ (parseMethodDescriptor yX6_asksOf.desc).map (fun d => d.parameters.length) = some 2 := by decide +kernel
def b_X6_asks_0 (N : Nat) (x1 : Int32) (x2 : Int32) (M : Mem) : Option (Int32 × Mem) := (f_X6_in x1 (0 : Int32) (2 : Int32) M).bind fun r3 => (if r3 = true then (f_X6_isOne x2 M).bind fun r11 => (if r11 = true then bd2 (f_X6_asksOf N x1 x2 M) fun r20 M20 => some (r20, M20) else some ((-1000 : Int32), M)) else some ((-1000 : Int32), M))
set_option maxHeartbeats 4000000 in
set_option maxRecDepth 100000 in
theorem w_X6_asks_0 (C : CX p s m args meth c cX6_asks 3 (some .int) RX6 D cy ad zz 100 21 A) {N : Nat} {M : Mem} {x1 : Int32} {x2 : Int32} {rr : Int32} {M' : Mem} {H : Heap} {locs : List Loc} (hP : va_P D vwCl (pool cy ad 100 21 M) H) (hD : va_D A (pool cy ad 100 21 M)) (hS : va_S A s.heap H locs) {ls : Array Slot} (hl : lv_has ls 3 [(0, .ref (ad 100)), (1, .int x1), (2, .int x2)]) (h : b_X6_asks_0 N x1 x2 M = some (rr, M')) : W p l e ({ frames := 3, cells := 0, slots := 0, locals := 68 } : Room) s m args below meth c H locs 0 0 (MQ below (va_Qi (fun (x : Int32) (_ : Unit) => x = rr) (fun _ t => PA D cy ad 100 21 A M' t) A) args s 0 0 A) (F0 m 0 ls []) := by
  obtain ⟨hx, hb, hml, hown, hts, hr, hlk, hK, hN, hA, hX⟩ := id C
  unfold b_X6_asks_0 at h
  refine lv_iload_n hx hb dX6_asks_0 rfl (lv_at hl 1 rfl) ?_
  refine lv_iconst (v := 0) hx hb dX6_asks_1 (by decide) ?_
  refine lv_iconst (v := 2) hx hb dX6_asks_2 (by decide) ?_
  obtain ⟨r3, g3, h⟩ := bd_of h
  refine call_iS (As := [.int x1, .int (0 : Int32), .int (2 : Int32)]) (rest := []) C hP hD hS (c_X6_in g3) (gS wd_843 wd_844 wd_75 wd_845) es_X6_in ⟨rfl, rfl⟩ ⟨Nat.le_of_ble_eq_true rfl, Nat.le_of_ble_eq_true rfl⟩ hl.1 rfl (Nat.le_of_ble_eq_true rfl) dX6_asks_3 (fun H locs hP hD hS => ?_)
  refine lv_if_eq (tgt := 26) hx hb dX6_asks_6 (by decide) (fun c6 => ?_) (fun c6 => ?_)
  · replace h := it_f (b2i_n c6) h
    refine lv_sipush (v := -1000) hx hb dX6_asks_26 (by decide) ?_
    exact rt_i (r := (-1000 : Int32)) C hP hD hS dX6_asks_29 (rw_end h)
  · replace h := it_t (b2i_1 c6) h
    refine lv_aload_n hx hb dX6_asks_9 rfl (lv_at hl 0 rfl) ?_
    refine lv_iload_n hx hb dX6_asks_10 rfl (lv_at hl 2 rfl) ?_
    obtain ⟨r11, g11, h⟩ := bd_of h
    refine call_iV (As := [.int x2]) (rest := []) C hP hD hS (c_X6_isOne g11) (iL (by decide)) ⟨6, _, _, ent_6 (by decide), rfl, rfl⟩ (gV wd_1034 wd_1036 wd_39 wd_75 wd_1037) ev_X6_isOne ⟨rfl, rfl⟩ ⟨Nat.le_of_ble_eq_true rfl, Nat.le_of_ble_eq_true rfl⟩ hl.1 rfl (Nat.le_of_ble_eq_true rfl) dX6_asks_11 (fun H locs hP hD hS => ?_)
    refine lv_if_eq (tgt := 26) hx hb dX6_asks_14 (by decide) (fun c14 => ?_) (fun c14 => ?_)
    · replace h := it_f (b2i_n c14) h
      refine lv_sipush (v := -1000) hx hb dX6_asks_26 (by decide) ?_
      exact rt_i (r := (-1000 : Int32)) C hP hD hS dX6_asks_29 (rw_end h)
    · replace h := it_t (b2i_1 c14) h
      refine lv_aload_n hx hb dX6_asks_17 rfl (lv_at hl 0 rfl) ?_
      refine lv_iload_n hx hb dX6_asks_18 rfl (lv_at hl 1 rfl) ?_
      refine lv_iload_n hx hb dX6_asks_19 rfl (lv_at hl 2 rfl) ?_
      obtain ⟨r20, M20, g20, h⟩ := bd2_of h
      refine call_iV (As := [.int x1, .int x2]) (rest := []) C hP hD hS (c_X6_asksOf g20) (iL (by decide)) ⟨6, _, _, ent_6 (by decide), rfl, rfl⟩ (gV wd_1038 wd_1040 wd_40 wd_75 wd_1041) ev_X6_asksOf ⟨rfl, rfl⟩ ⟨Nat.le_of_ble_eq_true rfl, Nat.le_of_ble_eq_true rfl⟩ hl.1 rfl (Nat.le_of_ble_eq_true rfl) dX6_asks_20 (fun H locs hP hD hS => ?_)
      refine lv_goto (tgt := 29) hx hb dX6_asks_23 (by decide) ?_
      exact rt_i (r := r20) C hP hD hS dX6_asks_29 (rw_end h)
def f_X6_asks (N : Nat) (x1 : Int32) (x2 : Int32) (M : Mem) : Option (Int32 × Mem) := b_X6_asks_0 N x1 x2 M
theorem c_X6_asks {l : Launch} {D : va_G} {cy : Nat → ClassId} {ad : Nat → Nat} {zz : (Nat → Nat) × (Nat → Nat)} {N : Nat} {x1 : Int32} {x2 : Int32} {M : Mem} {rr : Int32} {M' : Mem} (h : f_X6_asks N x1 x2 M = some (rr, M')) : CTi l D cy ad zz 100 21 yX6_asks (.code yX6_asks cX6_asks 3 (some .int) :: tb) ({ frames := 3, cells := 0, slots := 0, locals := 68 } : Room) [.ref (ad 100), .int x1, .int x2] M rr M' := by
  intro sz
  refine CX.of (by decide +kernel) (fun p e s m args below meth c H ls C hP hD hS hl => ?_) (Nat.le_of_ble_eq_true rfl)
  exact w_X6_asks_0 C hP hD hS hl h
theorem ev_X6_asks : yX6_asks.cls = RX6 ∧ yX6_asks.cls ≠ "java/lang/invoke/MethodHandle" ∧ yX6_asks.cls ≠ "java/lang/invoke/VarHandle" ∧ (parseMethodDescriptor yX6_asks.desc).map (fun d => d.parameters.length) = some 2 := by decide +kernel
def b_X6_sleeper_178 (x1 : Int32) (x2 : Int32) (M : Mem) : Option (Int32 × Mem) := some (((FI M 100 0) - (1 : Int32)), M)
set_option maxHeartbeats 4000000 in
set_option maxRecDepth 100000 in
theorem w_X6_sleeper_178 (C : CX p s m args meth c cX6_sleeper 3 (some .int) RX6 D cy ad zz 100 21 A) {M : Mem} {x1 : Int32} {x2 : Int32} {rr : Int32} {M' : Mem} {H : Heap} {locs : List Loc} (hP : va_P D vwCl (pool cy ad 100 21 M) H) (hD : va_D A (pool cy ad 100 21 M)) (hS : va_S A s.heap H locs) {ls : Array Slot} (hl : lv_has ls 3 [(0, .ref (ad 100))]) (h : b_X6_sleeper_178 x1 x2 M = some (rr, M')) : W p l e ({ frames := 1, cells := 0, slots := 0, locals := 22 } : Room) s m args below meth c H locs 0 0 (MQ below (va_Qi (fun (x : Int32) (_ : Unit) => x = rr) (fun _ t => PA D cy ad 100 21 A M' t) A) args s 0 0 A) (F0 m 178 ls []) := by
  obtain ⟨hx, hb, hml, hown, hts, hr, hlk, hK, hN, hA, hX⟩ := id C
  unfold b_X6_sleeper_178 at h
  refine lv_aload_n hx hb dX6_sleeper_178 rfl (lv_at hl 0 rfl) ?_
  refine gf_6_0 C hP (iL (by decide)) (by decide) wd_882 dX6_sleeper_179 ?_
  refine lv_iconst (v := 1) hx hb dX6_sleeper_182 (by decide) ?_
  refine lv_isub hx hb dX6_sleeper_183 ?_
  exact rt_i (r := ((FI M 100 0) - (1 : Int32))) C hP hD hS dX6_sleeper_184 (rw_end h)
def b_X6_sleeper_168 (x1 : Int32) (x2 : Int32) (M : Mem) : Option (Int32 × Mem) := b_X6_sleeper_178 x1 x2 (sFI M 100 0 ((FI M 100 0) + (1 : Int32)))
set_option maxHeartbeats 4000000 in
set_option maxRecDepth 100000 in
theorem w_X6_sleeper_168 (C : CX p s m args meth c cX6_sleeper 3 (some .int) RX6 D cy ad zz 100 21 A) {M : Mem} {x1 : Int32} {x2 : Int32} {rr : Int32} {M' : Mem} {H : Heap} {locs : List Loc} (hP : va_P D vwCl (pool cy ad 100 21 M) H) (hD : va_D A (pool cy ad 100 21 M)) (hS : va_S A s.heap H locs) {ls : Array Slot} (hl : lv_has ls 3 [(0, .ref (ad 100))]) (h : b_X6_sleeper_168 x1 x2 M = some (rr, M')) : W p l e ({ frames := 1, cells := 0, slots := 0, locals := 22 } : Room) s m args below meth c H locs 0 0 (MQ below (va_Qi (fun (x : Int32) (_ : Unit) => x = rr) (fun _ t => PA D cy ad 100 21 A M' t) A) args s 0 0 A) (F0 m 168 ls []) := by
  obtain ⟨hx, hb, hml, hown, hts, hr, hlk, hK, hN, hA, hX⟩ := id C
  unfold b_X6_sleeper_168 at h
  refine lv_aload_n hx hb dX6_sleeper_168 rfl (lv_at hl 0 rfl) ?_
  refine lv_dup hx hb dX6_sleeper_169 rfl ?_
  refine gf_6_0 C hP (iL (by decide)) (by decide) wd_882 dX6_sleeper_170 ?_
  refine lv_iconst (v := 1) hx hb dX6_sleeper_173 (by decide) ?_
  refine lv_iadd hx hb dX6_sleeper_174 ?_
  refine pf_6_0 C hP hD hS (iL (by decide)) (by decide) wd_882 dX6_sleeper_175 (fun H locs hP hD hS => ?_)
  exact w_X6_sleeper_178 C hP hD hS hl h
def b_X6_sleeper_155 (x1 : Int32) (x2 : Int32) (M : Mem) : Option (Int32 × Mem) := gd (inb ((16 : Int32) * (FI M 100 0)) (len 104)) (b_X6_sleeper_168 x1 x2 (sAI M 104 ((16 : Int32) * (FI M 100 0)).toNatClampNeg (0 : Int32)))
set_option maxHeartbeats 4000000 in
set_option maxRecDepth 100000 in
theorem w_X6_sleeper_155 (C : CX p s m args meth c cX6_sleeper 3 (some .int) RX6 D cy ad zz 100 21 A) {M : Mem} {x1 : Int32} {x2 : Int32} {rr : Int32} {M' : Mem} {H : Heap} {locs : List Loc} (hP : va_P D vwCl (pool cy ad 100 21 M) H) (hD : va_D A (pool cy ad 100 21 M)) (hS : va_S A s.heap H locs) {ls : Array Slot} (hl : lv_has ls 3 [(0, .ref (ad 100))]) (h : b_X6_sleeper_155 x1 x2 M = some (rr, M')) : W p l e ({ frames := 1, cells := 0, slots := 0, locals := 22 } : Room) s m args below meth c H locs 0 0 (MQ below (va_Qi (fun (x : Int32) (_ : Unit) => x = rr) (fun _ t => PA D cy ad 100 21 A M' t) A) args s 0 0 A) (F0 m 155 ls []) := by
  obtain ⟨hx, hb, hml, hown, hts, hr, hlk, hK, hN, hA, hX⟩ := id C
  unfold b_X6_sleeper_155 at h
  refine lv_aload_n hx hb dX6_sleeper_155 rfl (lv_at hl 0 rfl) ?_
  refine gf_6_4 C hP (iL (by decide)) (by decide) wd_886 dX6_sleeper_156 ?_
  refine lv_bipush (v := 16) hx hb dX6_sleeper_159 (by decide) ?_
  refine lv_aload_n hx hb dX6_sleeper_161 rfl (lv_at hl 0 rfl) ?_
  refine gf_6_0 C hP (iL (by decide)) (by decide) wd_882 dX6_sleeper_162 ?_
  refine lv_imul hx hb dX6_sleeper_165 ?_
  refine lv_iconst (v := 0) hx hb dX6_sleeper_166 (by decide) ?_
  obtain ⟨gi1, h⟩ := gd_of h
  refine ia_st C hP hD hS (iL (by decide)) (by decide) gi1 dX6_sleeper_167 (fun H locs hP hD hS => ?_)
  exact w_X6_sleeper_168 C hP hD hS hl h
def b_X6_sleeper_145 (x1 : Int32) (x2 : Int32) (M : Mem) : Option (Int32 × Mem) := gd (inb (FI M 100 0) (len 105)) (b_X6_sleeper_155 x1 x2 (sAI M 105 (FI M 100 0).toNatClampNeg (1 : Int32)))
set_option maxHeartbeats 4000000 in
set_option maxRecDepth 100000 in
theorem w_X6_sleeper_145 (C : CX p s m args meth c cX6_sleeper 3 (some .int) RX6 D cy ad zz 100 21 A) {M : Mem} {x1 : Int32} {x2 : Int32} {rr : Int32} {M' : Mem} {H : Heap} {locs : List Loc} (hP : va_P D vwCl (pool cy ad 100 21 M) H) (hD : va_D A (pool cy ad 100 21 M)) (hS : va_S A s.heap H locs) {ls : Array Slot} (hl : lv_has ls 3 [(0, .ref (ad 100))]) (h : b_X6_sleeper_145 x1 x2 M = some (rr, M')) : W p l e ({ frames := 1, cells := 0, slots := 0, locals := 22 } : Room) s m args below meth c H locs 0 0 (MQ below (va_Qi (fun (x : Int32) (_ : Unit) => x = rr) (fun _ t => PA D cy ad 100 21 A M' t) A) args s 0 0 A) (F0 m 145 ls []) := by
  obtain ⟨hx, hb, hml, hown, hts, hr, hlk, hK, hN, hA, hX⟩ := id C
  unfold b_X6_sleeper_145 at h
  refine lv_aload_n hx hb dX6_sleeper_145 rfl (lv_at hl 0 rfl) ?_
  refine gf_6_5 C hP (iL (by decide)) (by decide) wd_887 dX6_sleeper_146 ?_
  refine lv_aload_n hx hb dX6_sleeper_149 rfl (lv_at hl 0 rfl) ?_
  refine gf_6_0 C hP (iL (by decide)) (by decide) wd_882 dX6_sleeper_150 ?_
  refine lv_iconst (v := 1) hx hb dX6_sleeper_153 (by decide) ?_
  obtain ⟨gi1, h⟩ := gd_of h
  refine ia_st C hP hD hS (iL (by decide)) (by decide) gi1 dX6_sleeper_154 (fun H locs hP hD hS => ?_)
  exact w_X6_sleeper_155 C hP hD hS hl h
def b_X6_sleeper_130 (x1 : Int32) (x2 : Int32) (M : Mem) : Option (Int32 × Mem) := gd (inb (((5 : Int32) * (FI M 100 0)) + (4 : Int32)) (len 103)) (b_X6_sleeper_145 x1 x2 (sAI M 103 (((5 : Int32) * (FI M 100 0)) + (4 : Int32)).toNatClampNeg (99 : Int32)))
set_option maxHeartbeats 4000000 in
set_option maxRecDepth 100000 in
theorem w_X6_sleeper_130 (C : CX p s m args meth c cX6_sleeper 3 (some .int) RX6 D cy ad zz 100 21 A) {M : Mem} {x1 : Int32} {x2 : Int32} {rr : Int32} {M' : Mem} {H : Heap} {locs : List Loc} (hP : va_P D vwCl (pool cy ad 100 21 M) H) (hD : va_D A (pool cy ad 100 21 M)) (hS : va_S A s.heap H locs) {ls : Array Slot} (hl : lv_has ls 3 [(0, .ref (ad 100))]) (h : b_X6_sleeper_130 x1 x2 M = some (rr, M')) : W p l e ({ frames := 1, cells := 0, slots := 0, locals := 22 } : Room) s m args below meth c H locs 0 0 (MQ below (va_Qi (fun (x : Int32) (_ : Unit) => x = rr) (fun _ t => PA D cy ad 100 21 A M' t) A) args s 0 0 A) (F0 m 130 ls []) := by
  obtain ⟨hx, hb, hml, hown, hts, hr, hlk, hK, hN, hA, hX⟩ := id C
  unfold b_X6_sleeper_130 at h
  refine lv_aload_n hx hb dX6_sleeper_130 rfl (lv_at hl 0 rfl) ?_
  refine gf_6_3 C hP (iL (by decide)) (by decide) wd_885 dX6_sleeper_131 ?_
  refine lv_iconst (v := 5) hx hb dX6_sleeper_134 (by decide) ?_
  refine lv_aload_n hx hb dX6_sleeper_135 rfl (lv_at hl 0 rfl) ?_
  refine gf_6_0 C hP (iL (by decide)) (by decide) wd_882 dX6_sleeper_136 ?_
  refine lv_imul hx hb dX6_sleeper_139 ?_
  refine lv_iconst (v := 4) hx hb dX6_sleeper_140 (by decide) ?_
  refine lv_iadd hx hb dX6_sleeper_141 ?_
  refine lv_bipush (v := 99) hx hb dX6_sleeper_142 (by decide) ?_
  obtain ⟨gi1, h⟩ := gd_of h
  refine ia_st C hP hD hS (iL (by decide)) (by decide) gi1 dX6_sleeper_144 (fun H locs hP hD hS => ?_)
  exact w_X6_sleeper_145 C hP hD hS hl h
def b_X6_sleeper_116 (x1 : Int32) (x2 : Int32) (M : Mem) : Option (Int32 × Mem) := gd (inb (((5 : Int32) * (FI M 100 0)) + (3 : Int32)) (len 103)) (b_X6_sleeper_130 x1 x2 (sAI M 103 (((5 : Int32) * (FI M 100 0)) + (3 : Int32)).toNatClampNeg (0 : Int32)))
set_option maxHeartbeats 4000000 in
set_option maxRecDepth 100000 in
theorem w_X6_sleeper_116 (C : CX p s m args meth c cX6_sleeper 3 (some .int) RX6 D cy ad zz 100 21 A) {M : Mem} {x1 : Int32} {x2 : Int32} {rr : Int32} {M' : Mem} {H : Heap} {locs : List Loc} (hP : va_P D vwCl (pool cy ad 100 21 M) H) (hD : va_D A (pool cy ad 100 21 M)) (hS : va_S A s.heap H locs) {ls : Array Slot} (hl : lv_has ls 3 [(0, .ref (ad 100))]) (h : b_X6_sleeper_116 x1 x2 M = some (rr, M')) : W p l e ({ frames := 1, cells := 0, slots := 0, locals := 22 } : Room) s m args below meth c H locs 0 0 (MQ below (va_Qi (fun (x : Int32) (_ : Unit) => x = rr) (fun _ t => PA D cy ad 100 21 A M' t) A) args s 0 0 A) (F0 m 116 ls []) := by
  obtain ⟨hx, hb, hml, hown, hts, hr, hlk, hK, hN, hA, hX⟩ := id C
  unfold b_X6_sleeper_116 at h
  refine lv_aload_n hx hb dX6_sleeper_116 rfl (lv_at hl 0 rfl) ?_
  refine gf_6_3 C hP (iL (by decide)) (by decide) wd_885 dX6_sleeper_117 ?_
  refine lv_iconst (v := 5) hx hb dX6_sleeper_120 (by decide) ?_
  refine lv_aload_n hx hb dX6_sleeper_121 rfl (lv_at hl 0 rfl) ?_
  refine gf_6_0 C hP (iL (by decide)) (by decide) wd_882 dX6_sleeper_122 ?_
  refine lv_imul hx hb dX6_sleeper_125 ?_
  refine lv_iconst (v := 3) hx hb dX6_sleeper_126 (by decide) ?_
  refine lv_iadd hx hb dX6_sleeper_127 ?_
  refine lv_iconst (v := 0) hx hb dX6_sleeper_128 (by decide) ?_
  obtain ⟨gi1, h⟩ := gd_of h
  refine ia_st C hP hD hS (iL (by decide)) (by decide) gi1 dX6_sleeper_129 (fun H locs hP hD hS => ?_)
  exact w_X6_sleeper_130 C hP hD hS hl h
def b_X6_sleeper_102 (x1 : Int32) (x2 : Int32) (M : Mem) : Option (Int32 × Mem) := gd (inb (((5 : Int32) * (FI M 100 0)) + (2 : Int32)) (len 103)) (b_X6_sleeper_116 x1 x2 (sAI M 103 (((5 : Int32) * (FI M 100 0)) + (2 : Int32)).toNatClampNeg (0 : Int32)))
set_option maxHeartbeats 4000000 in
set_option maxRecDepth 100000 in
theorem w_X6_sleeper_102 (C : CX p s m args meth c cX6_sleeper 3 (some .int) RX6 D cy ad zz 100 21 A) {M : Mem} {x1 : Int32} {x2 : Int32} {rr : Int32} {M' : Mem} {H : Heap} {locs : List Loc} (hP : va_P D vwCl (pool cy ad 100 21 M) H) (hD : va_D A (pool cy ad 100 21 M)) (hS : va_S A s.heap H locs) {ls : Array Slot} (hl : lv_has ls 3 [(0, .ref (ad 100))]) (h : b_X6_sleeper_102 x1 x2 M = some (rr, M')) : W p l e ({ frames := 1, cells := 0, slots := 0, locals := 22 } : Room) s m args below meth c H locs 0 0 (MQ below (va_Qi (fun (x : Int32) (_ : Unit) => x = rr) (fun _ t => PA D cy ad 100 21 A M' t) A) args s 0 0 A) (F0 m 102 ls []) := by
  obtain ⟨hx, hb, hml, hown, hts, hr, hlk, hK, hN, hA, hX⟩ := id C
  unfold b_X6_sleeper_102 at h
  refine lv_aload_n hx hb dX6_sleeper_102 rfl (lv_at hl 0 rfl) ?_
  refine gf_6_3 C hP (iL (by decide)) (by decide) wd_885 dX6_sleeper_103 ?_
  refine lv_iconst (v := 5) hx hb dX6_sleeper_106 (by decide) ?_
  refine lv_aload_n hx hb dX6_sleeper_107 rfl (lv_at hl 0 rfl) ?_
  refine gf_6_0 C hP (iL (by decide)) (by decide) wd_882 dX6_sleeper_108 ?_
  refine lv_imul hx hb dX6_sleeper_111 ?_
  refine lv_iconst (v := 2) hx hb dX6_sleeper_112 (by decide) ?_
  refine lv_iadd hx hb dX6_sleeper_113 ?_
  refine lv_iconst (v := 0) hx hb dX6_sleeper_114 (by decide) ?_
  obtain ⟨gi1, h⟩ := gd_of h
  refine ia_st C hP hD hS (iL (by decide)) (by decide) gi1 dX6_sleeper_115 (fun H locs hP hD hS => ?_)
  exact w_X6_sleeper_116 C hP hD hS hl h
def b_X6_sleeper_85 (x1 : Int32) (x2 : Int32) (M : Mem) : Option (Int32 × Mem) := gd (inb (((5 : Int32) * (FI M 100 0)) + (1 : Int32)) (len 103)) (b_X6_sleeper_102 x1 x2 (sAI M 103 (((5 : Int32) * (FI M 100 0)) + (1 : Int32)).toNatClampNeg (x2 - x2 / (10 : Int32) * (10 : Int32))))
set_option maxHeartbeats 4000000 in
set_option maxRecDepth 100000 in
theorem w_X6_sleeper_85 (C : CX p s m args meth c cX6_sleeper 3 (some .int) RX6 D cy ad zz 100 21 A) {M : Mem} {x1 : Int32} {x2 : Int32} {rr : Int32} {M' : Mem} {H : Heap} {locs : List Loc} (hP : va_P D vwCl (pool cy ad 100 21 M) H) (hD : va_D A (pool cy ad 100 21 M)) (hS : va_S A s.heap H locs) {ls : Array Slot} (hl : lv_has ls 3 [(0, .ref (ad 100)), (2, .int x2)]) (h : b_X6_sleeper_85 x1 x2 M = some (rr, M')) : W p l e ({ frames := 1, cells := 0, slots := 0, locals := 22 } : Room) s m args below meth c H locs 0 0 (MQ below (va_Qi (fun (x : Int32) (_ : Unit) => x = rr) (fun _ t => PA D cy ad 100 21 A M' t) A) args s 0 0 A) (F0 m 85 ls []) := by
  obtain ⟨hx, hb, hml, hown, hts, hr, hlk, hK, hN, hA, hX⟩ := id C
  unfold b_X6_sleeper_85 at h
  refine lv_aload_n hx hb dX6_sleeper_85 rfl (lv_at hl 0 rfl) ?_
  refine gf_6_3 C hP (iL (by decide)) (by decide) wd_885 dX6_sleeper_86 ?_
  refine lv_iconst (v := 5) hx hb dX6_sleeper_89 (by decide) ?_
  refine lv_aload_n hx hb dX6_sleeper_90 rfl (lv_at hl 0 rfl) ?_
  refine gf_6_0 C hP (iL (by decide)) (by decide) wd_882 dX6_sleeper_91 ?_
  refine lv_imul hx hb dX6_sleeper_94 ?_
  refine lv_iconst (v := 1) hx hb dX6_sleeper_95 (by decide) ?_
  refine lv_iadd hx hb dX6_sleeper_96 ?_
  refine lv_iload_n hx hb dX6_sleeper_97 rfl (lv_at hl 1 rfl) ?_
  refine lv_bipush (v := 10) hx hb dX6_sleeper_98 (by decide) ?_
  refine lv_irem hx hb dX6_sleeper_100 (by decide) ?_
  obtain ⟨gi1, h⟩ := gd_of h
  refine ia_st C hP hD hS (iL (by decide)) (by decide) gi1 dX6_sleeper_101 (fun H locs hP hD hS => ?_)
  exact w_X6_sleeper_102 C hP hD hS (lv_sub hl [0] rfl) h
def b_X6_sleeper_70 (x1 : Int32) (x2 : Int32) (M : Mem) : Option (Int32 × Mem) := gd (inb ((5 : Int32) * (FI M 100 0)) (len 103)) (b_X6_sleeper_85 x1 x2 (sAI M 103 ((5 : Int32) * (FI M 100 0)).toNatClampNeg (x2 / (10 : Int32))))
set_option maxHeartbeats 4000000 in
set_option maxRecDepth 100000 in
theorem w_X6_sleeper_70 (C : CX p s m args meth c cX6_sleeper 3 (some .int) RX6 D cy ad zz 100 21 A) {M : Mem} {x1 : Int32} {x2 : Int32} {rr : Int32} {M' : Mem} {H : Heap} {locs : List Loc} (hP : va_P D vwCl (pool cy ad 100 21 M) H) (hD : va_D A (pool cy ad 100 21 M)) (hS : va_S A s.heap H locs) {ls : Array Slot} (hl : lv_has ls 3 [(0, .ref (ad 100)), (2, .int x2)]) (h : b_X6_sleeper_70 x1 x2 M = some (rr, M')) : W p l e ({ frames := 1, cells := 0, slots := 0, locals := 22 } : Room) s m args below meth c H locs 0 0 (MQ below (va_Qi (fun (x : Int32) (_ : Unit) => x = rr) (fun _ t => PA D cy ad 100 21 A M' t) A) args s 0 0 A) (F0 m 70 ls []) := by
  obtain ⟨hx, hb, hml, hown, hts, hr, hlk, hK, hN, hA, hX⟩ := id C
  unfold b_X6_sleeper_70 at h
  refine lv_aload_n hx hb dX6_sleeper_70 rfl (lv_at hl 0 rfl) ?_
  refine gf_6_3 C hP (iL (by decide)) (by decide) wd_885 dX6_sleeper_71 ?_
  refine lv_iconst (v := 5) hx hb dX6_sleeper_74 (by decide) ?_
  refine lv_aload_n hx hb dX6_sleeper_75 rfl (lv_at hl 0 rfl) ?_
  refine gf_6_0 C hP (iL (by decide)) (by decide) wd_882 dX6_sleeper_76 ?_
  refine lv_imul hx hb dX6_sleeper_79 ?_
  refine lv_iload_n hx hb dX6_sleeper_80 rfl (lv_at hl 1 rfl) ?_
  refine lv_bipush (v := 10) hx hb dX6_sleeper_81 (by decide) ?_
  refine lv_idiv hx hb dX6_sleeper_83 (by decide) ?_
  obtain ⟨gi1, h⟩ := gd_of h
  refine ia_st C hP hD hS (iL (by decide)) (by decide) gi1 dX6_sleeper_84 (fun H locs hP hD hS => ?_)
  exact w_X6_sleeper_85 C hP hD hS hl h
def b_X6_sleeper_57 (x1 : Int32) (x2 : Int32) (M : Mem) : Option (Int32 × Mem) := gd (inb (FI M 100 0) (len 102)) (b_X6_sleeper_70 x1 x2 (sAI M 102 (FI M 100 0).toNatClampNeg (x1 - x1 / (10 : Int32) * (10 : Int32))))
set_option maxHeartbeats 4000000 in
set_option maxRecDepth 100000 in
theorem w_X6_sleeper_57 (C : CX p s m args meth c cX6_sleeper 3 (some .int) RX6 D cy ad zz 100 21 A) {M : Mem} {x1 : Int32} {x2 : Int32} {rr : Int32} {M' : Mem} {H : Heap} {locs : List Loc} (hP : va_P D vwCl (pool cy ad 100 21 M) H) (hD : va_D A (pool cy ad 100 21 M)) (hS : va_S A s.heap H locs) {ls : Array Slot} (hl : lv_has ls 3 [(0, .ref (ad 100)), (1, .int x1), (2, .int x2)]) (h : b_X6_sleeper_57 x1 x2 M = some (rr, M')) : W p l e ({ frames := 1, cells := 0, slots := 0, locals := 22 } : Room) s m args below meth c H locs 0 0 (MQ below (va_Qi (fun (x : Int32) (_ : Unit) => x = rr) (fun _ t => PA D cy ad 100 21 A M' t) A) args s 0 0 A) (F0 m 57 ls []) := by
  obtain ⟨hx, hb, hml, hown, hts, hr, hlk, hK, hN, hA, hX⟩ := id C
  unfold b_X6_sleeper_57 at h
  refine lv_aload_n hx hb dX6_sleeper_57 rfl (lv_at hl 0 rfl) ?_
  refine gf_6_2 C hP (iL (by decide)) (by decide) wd_884 dX6_sleeper_58 ?_
  refine lv_aload_n hx hb dX6_sleeper_61 rfl (lv_at hl 0 rfl) ?_
  refine gf_6_0 C hP (iL (by decide)) (by decide) wd_882 dX6_sleeper_62 ?_
  refine lv_iload_n hx hb dX6_sleeper_65 rfl (lv_at hl 1 rfl) ?_
  refine lv_bipush (v := 10) hx hb dX6_sleeper_66 (by decide) ?_
  refine lv_irem hx hb dX6_sleeper_68 (by decide) ?_
  obtain ⟨gi1, h⟩ := gd_of h
  refine ia_st C hP hD hS (iL (by decide)) (by decide) gi1 dX6_sleeper_69 (fun H locs hP hD hS => ?_)
  exact w_X6_sleeper_70 C hP hD hS (lv_sub hl [0, 2] rfl) h
def b_X6_sleeper_0 (x1 : Int32) (x2 : Int32) (M : Mem) : Option (Int32 × Mem) := (f_X6_in x1 (0 : Int32) (59 : Int32) M).bind fun r4 => (if r4 = true then (f_X6_in x2 (0 : Int32) (633 : Int32) M).bind fun r15 => (if r15 = true then (if (x2 - x2 / (10 : Int32) * (10 : Int32)) ≤ (3 : Int32) then (if (FI M 100 0) = (6 : Int32) then some ((-4 : Int32), M) else gd (inb (FI M 100 0) (len 101)) (b_X6_sleeper_57 x1 x2 (sAI M 101 (FI M 100 0).toNatClampNeg (x1 / (10 : Int32))))) else some ((-2 : Int32), M)) else some ((-2 : Int32), M)) else some ((-2 : Int32), M))
set_option maxHeartbeats 4000000 in
set_option maxRecDepth 100000 in
theorem w_X6_sleeper_0 (C : CX p s m args meth c cX6_sleeper 3 (some .int) RX6 D cy ad zz 100 21 A) {M : Mem} {x1 : Int32} {x2 : Int32} {rr : Int32} {M' : Mem} {H : Heap} {locs : List Loc} (hP : va_P D vwCl (pool cy ad 100 21 M) H) (hD : va_D A (pool cy ad 100 21 M)) (hS : va_S A s.heap H locs) {ls : Array Slot} (hl : lv_has ls 3 [(0, .ref (ad 100)), (1, .int x1), (2, .int x2)]) (h : b_X6_sleeper_0 x1 x2 M = some (rr, M')) : W p l e ({ frames := 1, cells := 0, slots := 0, locals := 22 } : Room) s m args below meth c H locs 0 0 (MQ below (va_Qi (fun (x : Int32) (_ : Unit) => x = rr) (fun _ t => PA D cy ad 100 21 A M' t) A) args s 0 0 A) (F0 m 0 ls []) := by
  obtain ⟨hx, hb, hml, hown, hts, hr, hlk, hK, hN, hA, hX⟩ := id C
  unfold b_X6_sleeper_0 at h
  refine lv_iload_n hx hb dX6_sleeper_0 rfl (lv_at hl 1 rfl) ?_
  refine lv_iconst (v := 0) hx hb dX6_sleeper_1 (by decide) ?_
  refine lv_bipush (v := 59) hx hb dX6_sleeper_2 (by decide) ?_
  obtain ⟨r4, g4, h⟩ := bd_of h
  refine call_iS (As := [.int x1, .int (0 : Int32), .int (59 : Int32)]) (rest := []) C hP hD hS (c_X6_in g4) (gS wd_843 wd_844 wd_75 wd_845) es_X6_in ⟨rfl, rfl⟩ ⟨Nat.le_of_ble_eq_true rfl, Nat.le_of_ble_eq_true rfl⟩ hl.1 rfl (Nat.le_of_ble_eq_true rfl) dX6_sleeper_4 (fun H locs hP hD hS => ?_)
  refine lv_if_eq (tgt := 29) hx hb dX6_sleeper_7 (by decide) (fun c7 => ?_) (fun c7 => ?_)
  · replace h := it_f (b2i_n c7) h
    refine lv_bipush (v := -2) hx hb dX6_sleeper_29 (by decide) ?_
    exact rt_i (r := (-2 : Int32)) C hP hD hS dX6_sleeper_31 (rw_end h)
  · replace h := it_t (b2i_1 c7) h
    refine lv_iload_n hx hb dX6_sleeper_10 rfl (lv_at hl 2 rfl) ?_
    refine lv_iconst (v := 0) hx hb dX6_sleeper_11 (by decide) ?_
    refine lv_sipush (v := 633) hx hb dX6_sleeper_12 (by decide) ?_
    obtain ⟨r15, g15, h⟩ := bd_of h
    refine call_iS (As := [.int x2, .int (0 : Int32), .int (633 : Int32)]) (rest := []) C hP hD hS (c_X6_in g15) (gS wd_843 wd_844 wd_75 wd_845) es_X6_in ⟨rfl, rfl⟩ ⟨Nat.le_of_ble_eq_true rfl, Nat.le_of_ble_eq_true rfl⟩ hl.1 rfl (Nat.le_of_ble_eq_true rfl) dX6_sleeper_15 (fun H locs hP hD hS => ?_)
    refine lv_if_eq (tgt := 29) hx hb dX6_sleeper_18 (by decide) (fun c18 => ?_) (fun c18 => ?_)
    · replace h := it_f (b2i_n c18) h
      refine lv_bipush (v := -2) hx hb dX6_sleeper_29 (by decide) ?_
      exact rt_i (r := (-2 : Int32)) C hP hD hS dX6_sleeper_31 (rw_end h)
    · replace h := it_t (b2i_1 c18) h
      refine lv_iload_n hx hb dX6_sleeper_21 rfl (lv_at hl 2 rfl) ?_
      refine lv_bipush (v := 10) hx hb dX6_sleeper_22 (by decide) ?_
      refine lv_irem hx hb dX6_sleeper_24 (by decide) ?_
      refine lv_iconst (v := 3) hx hb dX6_sleeper_25 (by decide) ?_
      refine lv_icmp_le (tgt := 32) hx hb dX6_sleeper_26 (by decide) (fun c26 => ?_) (fun c26 => ?_)
      · replace h := it_t c26 h
        refine lv_aload_n hx hb dX6_sleeper_32 rfl (lv_at hl 0 rfl) ?_
        refine gf_6_0 C hP (iL (by decide)) (by decide) wd_882 dX6_sleeper_33 ?_
        refine lv_bipush (v := 6) hx hb dX6_sleeper_36 (by decide) ?_
        refine lv_icmp_ne (tgt := 44) hx hb dX6_sleeper_38 (by decide) (fun c38 => ?_) (fun c38 => ?_)
        · replace h := it_f c38 h
          refine lv_aload_n hx hb dX6_sleeper_44 rfl (lv_at hl 0 rfl) ?_
          refine gf_6_1 C hP (iL (by decide)) (by decide) wd_883 dX6_sleeper_45 ?_
          refine lv_aload_n hx hb dX6_sleeper_48 rfl (lv_at hl 0 rfl) ?_
          refine gf_6_0 C hP (iL (by decide)) (by decide) wd_882 dX6_sleeper_49 ?_
          refine lv_iload_n hx hb dX6_sleeper_52 rfl (lv_at hl 1 rfl) ?_
          refine lv_bipush (v := 10) hx hb dX6_sleeper_53 (by decide) ?_
          refine lv_idiv hx hb dX6_sleeper_55 (by decide) ?_
          obtain ⟨gi1, h⟩ := gd_of h
          refine ia_st C hP hD hS (iL (by decide)) (by decide) gi1 dX6_sleeper_56 (fun H locs hP hD hS => ?_)
          exact w_X6_sleeper_57 C hP hD hS hl h
        · replace h := it_t c38 h
          refine lv_bipush (v := -4) hx hb dX6_sleeper_41 (by decide) ?_
          exact rt_i (r := (-4 : Int32)) C hP hD hS dX6_sleeper_43 (rw_end h)
      · replace h := it_f c26 h
        refine lv_bipush (v := -2) hx hb dX6_sleeper_29 (by decide) ?_
        exact rt_i (r := (-2 : Int32)) C hP hD hS dX6_sleeper_31 (rw_end h)
def f_X6_sleeper (x1 : Int32) (x2 : Int32) (M : Mem) : Option (Int32 × Mem) := b_X6_sleeper_0 x1 x2 M
theorem c_X6_sleeper {l : Launch} {D : va_G} {cy : Nat → ClassId} {ad : Nat → Nat} {zz : (Nat → Nat) × (Nat → Nat)} {x1 : Int32} {x2 : Int32} {M : Mem} {rr : Int32} {M' : Mem} (h : f_X6_sleeper x1 x2 M = some (rr, M')) : CTi l D cy ad zz 100 21 yX6_sleeper (.code yX6_sleeper cX6_sleeper 3 (some .int) :: tb) ({ frames := 1, cells := 0, slots := 0, locals := 22 } : Room) [.ref (ad 100), .int x1, .int x2] M rr M' := by
  intro sz
  refine CX.of (by decide +kernel) (fun p e s m args below meth c H ls C hP hD hS hl => ?_) (Nat.le_of_ble_eq_true rfl)
  exact w_X6_sleeper_0 C hP hD hS hl h
theorem ev_X6_sleeper : yX6_sleeper.cls = RX6 ∧ yX6_sleeper.cls ≠ "java/lang/invoke/MethodHandle" ∧ yX6_sleeper.cls ≠ "java/lang/invoke/VarHandle" ∧ (parseMethodDescriptor yX6_sleeper.desc).map (fun d => d.parameters.length) = some 2 := by decide +kernel
def b_X6_put_47 (x1 : Int32) (x2 : Int32) (x3 : Int32) (t0 : Int32) (M : Mem) : Option (Int32 × Mem) := (f_X6_in x2 (0 : Int32) (4 : Int32) M).bind fun r52 => (if r52 = true then (f_X6_in x3 (0 : Int32) t0 M).bind fun r62 => (if r62 = true then gd (inb (((5 : Int32) * x1) + x2) (len 103)) (gd (inb (((5 : Int32) * x1) + x2) (len 103)) (some ((AI M 103 (((5 : Int32) * x1) + x2).toNatClampNeg), (sAI M 103 (((5 : Int32) * x1) + x2).toNatClampNeg x3)))) else some ((-7 : Int32), M)) else some ((-7 : Int32), M))
set_option maxHeartbeats 4000000 in
set_option maxRecDepth 100000 in
theorem w_X6_put_47 (C : CX p s m args meth c cX6_put 6 (some .int) RX6 D cy ad zz 100 21 A) {M : Mem} {x1 : Int32} {x2 : Int32} {x3 : Int32} {rr : Int32} {M' : Mem} {t0 : Int32} {H : Heap} {locs : List Loc} (hP : va_P D vwCl (pool cy ad 100 21 M) H) (hD : va_D A (pool cy ad 100 21 M)) (hS : va_S A s.heap H locs) {ls : Array Slot} (hl : lv_has ls 6 [(0, .ref (ad 100)), (1, .int x1), (2, .int x2), (3, .int x3)]) (h : b_X6_put_47 x1 x2 x3 t0 M = some (rr, M')) : W p l e ({ frames := 2, cells := 0, slots := 0, locals := 43 } : Room) s m args below meth c H locs 0 0 (MQ below (va_Qi (fun (x : Int32) (_ : Unit) => x = rr) (fun _ t => PA D cy ad 100 21 A M' t) A) args s 0 0 A) (F0 m 47 ls [.int t0]) := by
  obtain ⟨hx, hb, hml, hown, hts, hr, hlk, hK, hN, hA, hX⟩ := id C
  unfold b_X6_put_47 at h
  refine lv_istore (lv' := [(4, .int t0), (0, .ref (ad 100)), (1, .int x1), (2, .int x2), (3, .int x3)]) hx hb dX6_put_47 hl (by decide) rfl (fun ls hl => ?_)
  refine lv_iload_n hx hb dX6_put_49 rfl (lv_at hl 3 rfl) ?_
  refine lv_iconst (v := 0) hx hb dX6_put_50 (by decide) ?_
  refine lv_iconst (v := 4) hx hb dX6_put_51 (by decide) ?_
  obtain ⟨r52, g52, h⟩ := bd_of h
  refine call_iS (As := [.int x2, .int (0 : Int32), .int (4 : Int32)]) (rest := []) C hP hD hS (c_X6_in g52) (gS wd_843 wd_844 wd_75 wd_845) es_X6_in ⟨rfl, rfl⟩ ⟨Nat.le_of_ble_eq_true rfl, Nat.le_of_ble_eq_true rfl⟩ hl.1 rfl (Nat.le_of_ble_eq_true rfl) dX6_put_52 (fun H locs hP hD hS => ?_)
  refine lv_if_eq (tgt := 68) hx hb dX6_put_55 (by decide) (fun c55 => ?_) (fun c55 => ?_)
  · replace h := it_f (b2i_n c55) h
    refine lv_bipush (v := -7) hx hb dX6_put_68 (by decide) ?_
    exact rt_i (r := (-7 : Int32)) C hP hD hS dX6_put_70 (rw_end h)
  · replace h := it_t (b2i_1 c55) h
    refine lv_iload_n hx hb dX6_put_58 rfl (lv_at hl 4 rfl) ?_
    refine lv_iconst (v := 0) hx hb dX6_put_59 (by decide) ?_
    refine lv_iload hx hb dX6_put_60 (lv_at hl 0 rfl) ?_
    obtain ⟨r62, g62, h⟩ := bd_of h
    refine call_iS (As := [.int x3, .int (0 : Int32), .int t0]) (rest := []) C hP hD hS (c_X6_in g62) (gS wd_843 wd_844 wd_75 wd_845) es_X6_in ⟨rfl, rfl⟩ ⟨Nat.le_of_ble_eq_true rfl, Nat.le_of_ble_eq_true rfl⟩ hl.1 rfl (Nat.le_of_ble_eq_true rfl) dX6_put_62 (fun H locs hP hD hS => ?_)
    refine lv_if_ne (tgt := 71) hx hb dX6_put_65 (by decide) (fun c65 => ?_) (fun c65 => ?_)
    · replace h := it_t (b2i_1 c65) h
      refine lv_aload_n hx hb dX6_put_71 rfl (lv_at hl 1 rfl) ?_
      refine gf_6_3 C hP (iL (by decide)) (by decide) wd_885 dX6_put_72 ?_
      refine lv_iconst (v := 5) hx hb dX6_put_75 (by decide) ?_
      refine lv_iload_n hx hb dX6_put_76 rfl (lv_at hl 2 rfl) ?_
      refine lv_imul hx hb dX6_put_77 ?_
      refine lv_iload_n hx hb dX6_put_78 rfl (lv_at hl 3 rfl) ?_
      refine lv_iadd hx hb dX6_put_79 ?_
      obtain ⟨gi1, h⟩ := gd_of h
      refine ia_ld C hP (iL (by decide)) (by decide) gi1 dX6_put_80 ?_
      refine lv_istore (lv' := [(5, .int (AI M 103 (((5 : Int32) * x1) + x2).toNatClampNeg)), (4, .int t0), (0, .ref (ad 100)), (1, .int x1), (2, .int x2), (3, .int x3)]) hx hb dX6_put_81 hl (by decide) rfl (fun ls hl => ?_)
      refine lv_aload_n hx hb dX6_put_83 rfl (lv_at hl 2 rfl) ?_
      refine gf_6_3 C hP (iL (by decide)) (by decide) wd_885 dX6_put_84 ?_
      refine lv_iconst (v := 5) hx hb dX6_put_87 (by decide) ?_
      refine lv_iload_n hx hb dX6_put_88 rfl (lv_at hl 3 rfl) ?_
      refine lv_imul hx hb dX6_put_89 ?_
      refine lv_iload_n hx hb dX6_put_90 rfl (lv_at hl 4 rfl) ?_
      refine lv_iadd hx hb dX6_put_91 ?_
      refine lv_iload_n hx hb dX6_put_92 rfl (lv_at hl 5 rfl) ?_
      obtain ⟨gi2, h⟩ := gd_of h
      refine ia_st C hP hD hS (iL (by decide)) (by decide) gi2 dX6_put_93 (fun H locs hP hD hS => ?_)
      refine lv_iload hx hb dX6_put_94 (lv_at hl 0 rfl) ?_
      exact rt_i (r := (AI M 103 (((5 : Int32) * x1) + x2).toNatClampNeg)) C hP hD hS dX6_put_96 (rw_end h)
    · replace h := it_f (b2i_n c65) h
      refine lv_bipush (v := -7) hx hb dX6_put_68 (by decide) ?_
      exact rt_i (r := (-7 : Int32)) C hP hD hS dX6_put_70 (rw_end h)
def b_X6_put_0 (x1 : Int32) (x2 : Int32) (x3 : Int32) (M : Mem) : Option (Int32 × Mem) := (f_X6_isOne x1 M).bind fun r2 => (if r2 = true then (if x2 = 0 then b_X6_put_47 x1 x2 x3 (63 : Int32) M else (if x2 = (1 : Int32) then b_X6_put_47 x1 x2 x3 (3 : Int32) M else (if x2 = (2 : Int32) then gd (inb x1 (len 105)) (b_X6_put_47 x1 x2 x3 ((AI M 105 x1.toNatClampNeg) - (1 : Int32)) M) else b_X6_put_47 x1 x2 x3 (99 : Int32) M))) else some ((-5 : Int32), M))
set_option maxHeartbeats 4000000 in
set_option maxRecDepth 100000 in
theorem w_X6_put_0 (C : CX p s m args meth c cX6_put 6 (some .int) RX6 D cy ad zz 100 21 A) {M : Mem} {x1 : Int32} {x2 : Int32} {x3 : Int32} {rr : Int32} {M' : Mem} {H : Heap} {locs : List Loc} (hP : va_P D vwCl (pool cy ad 100 21 M) H) (hD : va_D A (pool cy ad 100 21 M)) (hS : va_S A s.heap H locs) {ls : Array Slot} (hl : lv_has ls 6 [(0, .ref (ad 100)), (1, .int x1), (2, .int x2), (3, .int x3)]) (h : b_X6_put_0 x1 x2 x3 M = some (rr, M')) : W p l e ({ frames := 2, cells := 0, slots := 0, locals := 43 } : Room) s m args below meth c H locs 0 0 (MQ below (va_Qi (fun (x : Int32) (_ : Unit) => x = rr) (fun _ t => PA D cy ad 100 21 A M' t) A) args s 0 0 A) (F0 m 0 ls []) := by
  obtain ⟨hx, hb, hml, hown, hts, hr, hlk, hK, hN, hA, hX⟩ := id C
  unfold b_X6_put_0 at h
  refine lv_aload_n hx hb dX6_put_0 rfl (lv_at hl 0 rfl) ?_
  refine lv_iload_n hx hb dX6_put_1 rfl (lv_at hl 1 rfl) ?_
  obtain ⟨r2, g2, h⟩ := bd_of h
  refine call_iV (As := [.int x1]) (rest := []) C hP hD hS (c_X6_isOne g2) (iL (by decide)) ⟨6, _, _, ent_6 (by decide), rfl, rfl⟩ (gV wd_1034 wd_1036 wd_39 wd_75 wd_1037) ev_X6_isOne ⟨rfl, rfl⟩ ⟨Nat.le_of_ble_eq_true rfl, Nat.le_of_ble_eq_true rfl⟩ hl.1 rfl (Nat.le_of_ble_eq_true rfl) dX6_put_2 (fun H locs hP hD hS => ?_)
  refine lv_if_ne (tgt := 11) hx hb dX6_put_5 (by decide) (fun c5 => ?_) (fun c5 => ?_)
  · replace h := it_t (b2i_1 c5) h
    refine lv_iload_n hx hb dX6_put_11 rfl (lv_at hl 2 rfl) ?_
    refine lv_if_ne (tgt := 20) hx hb dX6_put_12 (by decide) (fun c12 => ?_) (fun c12 => ?_)
    · replace h := it_f c12 h
      refine lv_iload_n hx hb dX6_put_20 rfl (lv_at hl 2 rfl) ?_
      refine lv_iconst (v := 1) hx hb dX6_put_21 (by decide) ?_
      refine lv_icmp_ne (tgt := 29) hx hb dX6_put_22 (by decide) (fun c22 => ?_) (fun c22 => ?_)
      · replace h := it_f c22 h
        refine lv_iload_n hx hb dX6_put_29 rfl (lv_at hl 2 rfl) ?_
        refine lv_iconst (v := 2) hx hb dX6_put_30 (by decide) ?_
        refine lv_icmp_ne (tgt := 45) hx hb dX6_put_31 (by decide) (fun c31 => ?_) (fun c31 => ?_)
        · replace h := it_f c31 h
          refine lv_bipush (v := 99) hx hb dX6_put_45 (by decide) ?_
          exact w_X6_put_47 C hP hD hS hl h
        · replace h := it_t c31 h
          refine lv_aload_n hx hb dX6_put_34 rfl (lv_at hl 0 rfl) ?_
          refine gf_6_5 C hP (iL (by decide)) (by decide) wd_887 dX6_put_35 ?_
          refine lv_iload_n hx hb dX6_put_38 rfl (lv_at hl 1 rfl) ?_
          obtain ⟨gi1, h⟩ := gd_of h
          refine ia_ld C hP (iL (by decide)) (by decide) gi1 dX6_put_39 ?_
          refine lv_iconst (v := 1) hx hb dX6_put_40 (by decide) ?_
          refine lv_isub hx hb dX6_put_41 ?_
          refine lv_goto (tgt := 47) hx hb dX6_put_42 (by decide) ?_
          exact w_X6_put_47 C hP hD hS hl h
      · replace h := it_t c22 h
        refine lv_iconst (v := 3) hx hb dX6_put_25 (by decide) ?_
        refine lv_goto (tgt := 47) hx hb dX6_put_26 (by decide) ?_
        exact w_X6_put_47 C hP hD hS hl h
    · replace h := it_t c12 h
      refine lv_bipush (v := 63) hx hb dX6_put_15 (by decide) ?_
      refine lv_goto (tgt := 47) hx hb dX6_put_17 (by decide) ?_
      exact w_X6_put_47 C hP hD hS hl h
  · replace h := it_f (b2i_n c5) h
    refine lv_bipush (v := -5) hx hb dX6_put_8 (by decide) ?_
    exact rt_i (r := (-5 : Int32)) C hP hD hS dX6_put_10 (rw_end h)
def f_X6_put (x1 : Int32) (x2 : Int32) (x3 : Int32) (M : Mem) : Option (Int32 × Mem) := b_X6_put_0 x1 x2 x3 M
theorem c_X6_put {l : Launch} {D : va_G} {cy : Nat → ClassId} {ad : Nat → Nat} {zz : (Nat → Nat) × (Nat → Nat)} {x1 : Int32} {x2 : Int32} {x3 : Int32} {M : Mem} {rr : Int32} {M' : Mem} (h : f_X6_put x1 x2 x3 M = some (rr, M')) : CTi l D cy ad zz 100 21 yX6_put (.code yX6_put cX6_put 6 (some .int) :: tb) ({ frames := 2, cells := 0, slots := 0, locals := 43 } : Room) [.ref (ad 100), .int x1, .int x2, .int x3] M rr M' := by
  intro sz
  refine CX.of (by decide +kernel) (fun p e s m args below meth c H ls C hP hD hS hl => ?_) (Nat.le_of_ble_eq_true rfl)
  exact w_X6_put_0 C hP hD hS hl h
theorem ev_X6_put : yX6_put.cls = RX6 ∧ yX6_put.cls ≠ "java/lang/invoke/MethodHandle" ∧ yX6_put.cls ≠ "java/lang/invoke/VarHandle" ∧ (parseMethodDescriptor yX6_put.desc).map (fun d => d.parameters.length) = some 3 := by decide +kernel
def b_X6_goesOf_87 (N : Nat) (x1 : Int32) (x3 : Int32) (x4 : Int32) (M : Mem) : Option (Int32 × Mem) := (if ((1 : Int32) + (x3 / (10 : Int32))) ≤ x4 then some (((1 : Int32) + (x3 / (10 : Int32))), M) else some (x4, M))
set_option maxHeartbeats 4000000 in
set_option maxRecDepth 100000 in
theorem w_X6_goesOf_87 (C : CX p s m args meth c cX6_goesOf 6 (some .int) RX6 D cy ad zz 100 21 A) {N : Nat} {M : Mem} {x1 : Int32} {rr : Int32} {M' : Mem} {x3 : Int32} {x4 : Int32} {H : Heap} {locs : List Loc} (hP : va_P D vwCl (pool cy ad 100 21 M) H) (hD : va_D A (pool cy ad 100 21 M)) (hS : va_S A s.heap H locs) {ls : Array Slot} (hl : lv_has ls 6 [(3, .int x3), (4, .int x4)]) (h : b_X6_goesOf_87 N x1 x3 x4 M = some (rr, M')) : W p l e ({ frames := 3, cells := 0, slots := 0, locals := 68 } : Room) s m args below meth c H locs 0 0 (MQ below (va_Qi (fun (x : Int32) (_ : Unit) => x = rr) (fun _ t => PA D cy ad 100 21 A M' t) A) args s 0 0 A) (F0 m 87 ls []) := by
  obtain ⟨hx, hb, hml, hown, hts, hr, hlk, hK, hN, hA, hX⟩ := id C
  unfold b_X6_goesOf_87 at h
  refine lv_iload hx hb dX6_goesOf_87 (lv_at hl 1 rfl) ?_
  refine lv_iconst (v := 1) hx hb dX6_goesOf_89 (by decide) ?_
  refine lv_iload_n hx hb dX6_goesOf_90 rfl (lv_at hl 0 rfl) ?_
  refine lv_bipush (v := 10) hx hb dX6_goesOf_91 (by decide) ?_
  refine lv_idiv hx hb dX6_goesOf_93 (by decide) ?_
  refine lv_iadd hx hb dX6_goesOf_94 ?_
  refine lv_icmp_ge (tgt := 103) hx hb dX6_goesOf_95 (by decide) (fun c95 => ?_) (fun c95 => ?_)
  · replace h := it_t c95 h
    refine lv_iconst (v := 1) hx hb dX6_goesOf_103 (by decide) ?_
    refine lv_iload_n hx hb dX6_goesOf_104 rfl (lv_at hl 0 rfl) ?_
    refine lv_bipush (v := 10) hx hb dX6_goesOf_105 (by decide) ?_
    refine lv_idiv hx hb dX6_goesOf_107 (by decide) ?_
    refine lv_iadd hx hb dX6_goesOf_108 ?_
    exact rt_i (r := ((1 : Int32) + (x3 / (10 : Int32)))) C hP hD hS dX6_goesOf_109 (rw_end h)
  · replace h := it_f c95 h
    refine lv_iload hx hb dX6_goesOf_98 (lv_at hl 1 rfl) ?_
    refine lv_goto (tgt := 109) hx hb dX6_goesOf_100 (by decide) ?_
    exact rt_i (r := x4) C hP hD hS dX6_goesOf_109 (rw_end h)
def b_X6_goesOf_44 (N : Nat) (x1 : Int32) (x2 : Int32) (x3 : Int32) (x4 : Int32) (x5 : Int32) (M : Mem) : Option (Int32 × Mem) := gd (inb x1 (len 101)) ((if (AI M 101 x1.toNatClampNeg) = 1 then some (x5, M) else (if (AI M 101 x1.toNatClampNeg) = 2 then b_X6_goesOf_87 N x1 x3 x4 M else (if (AI M 101 x1.toNatClampNeg) = 3 then some ((x5 + (1 : Int32)), M) else (if (AI M 101 x1.toNatClampNeg) = 4 then b_X6_goesOf_87 N x1 x3 x4 M else (if (AI M 101 x1.toNatClampNeg) = 5 then gd (inb x1 (len 102)) ((if (AI M 102 x1.toNatClampNeg) ≤ x2 then gd (inb x1 (len 102)) (some ((AI M 102 x1.toNatClampNeg), M)) else some (x2, M))) else some (x4, M)))))))
set_option maxHeartbeats 4000000 in
set_option maxRecDepth 100000 in
theorem w_X6_goesOf_44 (C : CX p s m args meth c cX6_goesOf 6 (some .int) RX6 D cy ad zz 100 21 A) {N : Nat} {M : Mem} {x1 : Int32} {rr : Int32} {M' : Mem} {x2 : Int32} {x3 : Int32} {x4 : Int32} {x5 : Int32} {H : Heap} {locs : List Loc} (hP : va_P D vwCl (pool cy ad 100 21 M) H) (hD : va_D A (pool cy ad 100 21 M)) (hS : va_S A s.heap H locs) {ls : Array Slot} (hl : lv_has ls 6 [(0, .ref (ad 100)), (1, .int x1), (2, .int x2), (3, .int x3), (4, .int x4), (5, .int x5)]) (h : b_X6_goesOf_44 N x1 x2 x3 x4 x5 M = some (rr, M')) : W p l e ({ frames := 3, cells := 0, slots := 0, locals := 68 } : Room) s m args below meth c H locs 0 0 (MQ below (va_Qi (fun (x : Int32) (_ : Unit) => x = rr) (fun _ t => PA D cy ad 100 21 A M' t) A) args s 0 0 A) (F0 m 44 ls []) := by
  obtain ⟨hx, hb, hml, hown, hts, hr, hlk, hK, hN, hA, hX⟩ := id C
  unfold b_X6_goesOf_44 at h
  refine lv_aload_n hx hb dX6_goesOf_44 rfl (lv_at hl 0 rfl) ?_
  refine gf_6_1 C hP (iL (by decide)) (by decide) wd_883 dX6_goesOf_45 ?_
  refine lv_iload_n hx hb dX6_goesOf_48 rfl (lv_at hl 1 rfl) ?_
  obtain ⟨gi1, h⟩ := gd_of h
  refine ia_ld C hP (iL (by decide)) (by decide) gi1 dX6_goesOf_49 ?_
  by_cases c50_1 : (AI M 101 x1.toNatClampNeg) = 1
  · replace h := it_t c50_1 h
    refine lv_tableIn (off := 34) (tgt := 84) hx hb dX6_goesOf_50 (by rw [c50_1]; decide) (by rw [c50_1]; decide) (by rw [c50_1]; rfl) (by decide) ?_
    refine lv_iload hx hb dX6_goesOf_84 (lv_at hl 5 rfl) ?_
    exact rt_i (r := x5) C hP hD hS dX6_goesOf_86 (rw_end h)
  · replace h := it_f c50_1 h
    by_cases c50_2 : (AI M 101 x1.toNatClampNeg) = 2
    · replace h := it_t c50_2 h
      refine lv_tableIn (off := 37) (tgt := 87) hx hb dX6_goesOf_50 (by rw [c50_2]; decide) (by rw [c50_2]; decide) (by rw [c50_2]; rfl) (by decide) ?_
      exact w_X6_goesOf_87 C hP hD hS (lv_sub hl [3, 4] rfl) h
    · replace h := it_f c50_2 h
      by_cases c50_3 : (AI M 101 x1.toNatClampNeg) = 3
      · replace h := it_t c50_3 h
        refine lv_tableIn (off := 60) (tgt := 110) hx hb dX6_goesOf_50 (by rw [c50_3]; decide) (by rw [c50_3]; decide) (by rw [c50_3]; rfl) (by decide) ?_
        refine lv_iload hx hb dX6_goesOf_110 (lv_at hl 5 rfl) ?_
        refine lv_iconst (v := 1) hx hb dX6_goesOf_112 (by decide) ?_
        refine lv_iadd hx hb dX6_goesOf_113 ?_
        exact rt_i (r := (x5 + (1 : Int32))) C hP hD hS dX6_goesOf_114 (rw_end h)
      · replace h := it_f c50_3 h
        by_cases c50_4 : (AI M 101 x1.toNatClampNeg) = 4
        · replace h := it_t c50_4 h
          refine lv_tableIn (off := 37) (tgt := 87) hx hb dX6_goesOf_50 (by rw [c50_4]; decide) (by rw [c50_4]; decide) (by rw [c50_4]; rfl) (by decide) ?_
          exact w_X6_goesOf_87 C hP hD hS (lv_sub hl [3, 4] rfl) h
        · replace h := it_f c50_4 h
          by_cases c50_5 : (AI M 101 x1.toNatClampNeg) = 5
          · replace h := it_t c50_5 h
            refine lv_tableIn (off := 65) (tgt := 115) hx hb dX6_goesOf_50 (by rw [c50_5]; decide) (by rw [c50_5]; decide) (by rw [c50_5]; rfl) (by decide) ?_
            refine lv_iload_n hx hb dX6_goesOf_115 rfl (lv_at hl 2 rfl) ?_
            refine lv_aload_n hx hb dX6_goesOf_116 rfl (lv_at hl 0 rfl) ?_
            refine gf_6_2 C hP (iL (by decide)) (by decide) wd_884 dX6_goesOf_117 ?_
            refine lv_iload_n hx hb dX6_goesOf_120 rfl (lv_at hl 1 rfl) ?_
            obtain ⟨gi2, h⟩ := gd_of h
            refine ia_ld C hP (iL (by decide)) (by decide) gi2 dX6_goesOf_121 ?_
            refine lv_icmp_ge (tgt := 129) hx hb dX6_goesOf_122 (by decide) (fun c122 => ?_) (fun c122 => ?_)
            · replace h := it_t c122 h
              refine lv_aload_n hx hb dX6_goesOf_129 rfl (lv_at hl 0 rfl) ?_
              refine gf_6_2 C hP (iL (by decide)) (by decide) wd_884 dX6_goesOf_130 ?_
              refine lv_iload_n hx hb dX6_goesOf_133 rfl (lv_at hl 1 rfl) ?_
              obtain ⟨gi3, h⟩ := gd_of h
              refine ia_ld C hP (iL (by decide)) (by decide) gi3 dX6_goesOf_134 ?_
              exact rt_i (r := (AI M 102 x1.toNatClampNeg)) C hP hD hS dX6_goesOf_135 (rw_end h)
            · replace h := it_f c122 h
              refine lv_iload_n hx hb dX6_goesOf_125 rfl (lv_at hl 2 rfl) ?_
              refine lv_goto (tgt := 135) hx hb dX6_goesOf_126 (by decide) ?_
              exact rt_i (r := x2) C hP hD hS dX6_goesOf_135 (rw_end h)
          · replace h := it_f c50_5 h
            have e50_1 : (AI M 101 x1.toNatClampNeg).toInt ≠ 1 := fun q => c50_1 (Int32.toInt_inj.mp (q.trans (by decide)))
            have e50_2 : (AI M 101 x1.toNatClampNeg).toInt ≠ 2 := fun q => c50_2 (Int32.toInt_inj.mp (q.trans (by decide)))
            have e50_3 : (AI M 101 x1.toNatClampNeg).toInt ≠ 3 := fun q => c50_3 (Int32.toInt_inj.mp (q.trans (by decide)))
            have e50_4 : (AI M 101 x1.toNatClampNeg).toInt ≠ 4 := fun q => c50_4 (Int32.toInt_inj.mp (q.trans (by decide)))
            have e50_5 : (AI M 101 x1.toNatClampNeg).toInt ≠ 5 := fun q => c50_5 (Int32.toInt_inj.mp (q.trans (by decide)))
            refine lv_tableOut (tgt := 136) hx hb dX6_goesOf_50 (by omega) (by decide) ?_
            refine lv_iload hx hb dX6_goesOf_136 (lv_at hl 4 rfl) ?_
            exact rt_i (r := x4) C hP hD hS dX6_goesOf_138 (rw_end h)
def b_X6_goesOf_27 (N : Nat) (x1 : Int32) (x2 : Int32) (x3 : Int32) (t0 : Int32) (M : Mem) : Option (Int32 × Mem) := gd (inb x1 (len 102)) (gd (decide (¬ ((AI M 102 x1.toNatClampNeg) + (1 : Int32)) = 0)) (b_X6_goesOf_44 N x1 x2 x3 t0 (((2 : Int32) * t0) - ((2 : Int32) * t0) / ((AI M 102 x1.toNatClampNeg) + (1 : Int32)) * ((AI M 102 x1.toNatClampNeg) + (1 : Int32))) M))
set_option maxHeartbeats 4000000 in
set_option maxRecDepth 100000 in
theorem w_X6_goesOf_27 (C : CX p s m args meth c cX6_goesOf 6 (some .int) RX6 D cy ad zz 100 21 A) {N : Nat} {M : Mem} {x1 : Int32} {rr : Int32} {M' : Mem} {x2 : Int32} {x3 : Int32} {t0 : Int32} {H : Heap} {locs : List Loc} (hP : va_P D vwCl (pool cy ad 100 21 M) H) (hD : va_D A (pool cy ad 100 21 M)) (hS : va_S A s.heap H locs) {ls : Array Slot} (hl : lv_has ls 6 [(0, .ref (ad 100)), (1, .int x1), (2, .int x2), (3, .int x3)]) (h : b_X6_goesOf_27 N x1 x2 x3 t0 M = some (rr, M')) : W p l e ({ frames := 3, cells := 0, slots := 0, locals := 68 } : Room) s m args below meth c H locs 0 0 (MQ below (va_Qi (fun (x : Int32) (_ : Unit) => x = rr) (fun _ t => PA D cy ad 100 21 A M' t) A) args s 0 0 A) (F0 m 27 ls [.int t0]) := by
  obtain ⟨hx, hb, hml, hown, hts, hr, hlk, hK, hN, hA, hX⟩ := id C
  unfold b_X6_goesOf_27 at h
  refine lv_istore (lv' := [(4, .int t0), (0, .ref (ad 100)), (1, .int x1), (2, .int x2), (3, .int x3)]) hx hb dX6_goesOf_27 hl (by decide) rfl (fun ls hl => ?_)
  refine lv_iconst (v := 2) hx hb dX6_goesOf_29 (by decide) ?_
  refine lv_iload hx hb dX6_goesOf_30 (lv_at hl 0 rfl) ?_
  refine lv_imul hx hb dX6_goesOf_32 ?_
  refine lv_aload_n hx hb dX6_goesOf_33 rfl (lv_at hl 1 rfl) ?_
  refine gf_6_2 C hP (iL (by decide)) (by decide) wd_884 dX6_goesOf_34 ?_
  refine lv_iload_n hx hb dX6_goesOf_37 rfl (lv_at hl 2 rfl) ?_
  obtain ⟨gi1, h⟩ := gd_of h
  refine ia_ld C hP (iL (by decide)) (by decide) gi1 dX6_goesOf_38 ?_
  refine lv_iconst (v := 1) hx hb dX6_goesOf_39 (by decide) ?_
  refine lv_iadd hx hb dX6_goesOf_40 ?_
  obtain ⟨gz2, h⟩ := gd_of h
  refine lv_irem hx hb dX6_goesOf_41 (of_decide_eq_true gz2) ?_
  refine lv_istore (lv' := [(5, .int (((2 : Int32) * t0) - ((2 : Int32) * t0) / ((AI M 102 x1.toNatClampNeg) + (1 : Int32)) * ((AI M 102 x1.toNatClampNeg) + (1 : Int32)))), (4, .int t0), (0, .ref (ad 100)), (1, .int x1), (2, .int x2), (3, .int x3)]) hx hb dX6_goesOf_42 hl (by decide) rfl (fun ls hl => ?_)
  exact w_X6_goesOf_44 C hP hD hS (lv_sub hl [2, 3, 4, 5, 1, 0] rfl) h
def b_X6_goesOf_18 (N : Nat) (x1 : Int32) (x2 : Int32) (x3 : Int32) (M : Mem) : Option (Int32 × Mem) := (if x3 = 0 then b_X6_goesOf_27 N x1 x2 x3 (0 : Int32) M else b_X6_goesOf_27 N x1 x2 x3 x2 M)
set_option maxHeartbeats 4000000 in
set_option maxRecDepth 100000 in
theorem w_X6_goesOf_18 (C : CX p s m args meth c cX6_goesOf 6 (some .int) RX6 D cy ad zz 100 21 A) {N : Nat} {M : Mem} {x1 : Int32} {rr : Int32} {M' : Mem} {x2 : Int32} {x3 : Int32} {H : Heap} {locs : List Loc} (hP : va_P D vwCl (pool cy ad 100 21 M) H) (hD : va_D A (pool cy ad 100 21 M)) (hS : va_S A s.heap H locs) {ls : Array Slot} (hl : lv_has ls 6 [(0, .ref (ad 100)), (1, .int x1), (2, .int x2), (3, .int x3)]) (h : b_X6_goesOf_18 N x1 x2 x3 M = some (rr, M')) : W p l e ({ frames := 3, cells := 0, slots := 0, locals := 68 } : Room) s m args below meth c H locs 0 0 (MQ below (va_Qi (fun (x : Int32) (_ : Unit) => x = rr) (fun _ t => PA D cy ad 100 21 A M' t) A) args s 0 0 A) (F0 m 18 ls []) := by
  obtain ⟨hx, hb, hml, hown, hts, hr, hlk, hK, hN, hA, hX⟩ := id C
  unfold b_X6_goesOf_18 at h
  refine lv_iload_n hx hb dX6_goesOf_18 rfl (lv_at hl 3 rfl) ?_
  refine lv_if_ne (tgt := 26) hx hb dX6_goesOf_19 (by decide) (fun c19 => ?_) (fun c19 => ?_)
  · replace h := it_f c19 h
    refine lv_iload_n hx hb dX6_goesOf_26 rfl (lv_at hl 2 rfl) ?_
    exact w_X6_goesOf_27 C hP hD hS hl h
  · replace h := it_t c19 h
    refine lv_iconst (v := 0) hx hb dX6_goesOf_22 (by decide) ?_
    refine lv_goto (tgt := 27) hx hb dX6_goesOf_23 (by decide) ?_
    exact w_X6_goesOf_27 C hP hD hS hl h
def b_X6_goesOf_0 (N : Nat) (x1 : Int32) (M : Mem) : Option (Int32 × Mem) := bd2 (f_X6_asksOf N (0 : Int32) x1 M) fun r3 M3 => gd (inb (((5 : Int32) * x1) + (4 : Int32)) (len 103)) (b_X6_goesOf_18 N x1 r3 (AI M3 103 (((5 : Int32) * x1) + (4 : Int32)).toNatClampNeg) M3)
set_option maxHeartbeats 4000000 in
set_option maxRecDepth 100000 in
theorem w_X6_goesOf_0 (C : CX p s m args meth c cX6_goesOf 6 (some .int) RX6 D cy ad zz 100 21 A) {N : Nat} {M : Mem} {x1 : Int32} {rr : Int32} {M' : Mem} {H : Heap} {locs : List Loc} (hP : va_P D vwCl (pool cy ad 100 21 M) H) (hD : va_D A (pool cy ad 100 21 M)) (hS : va_S A s.heap H locs) {ls : Array Slot} (hl : lv_has ls 6 [(0, .ref (ad 100)), (1, .int x1)]) (h : b_X6_goesOf_0 N x1 M = some (rr, M')) : W p l e ({ frames := 3, cells := 0, slots := 0, locals := 68 } : Room) s m args below meth c H locs 0 0 (MQ below (va_Qi (fun (x : Int32) (_ : Unit) => x = rr) (fun _ t => PA D cy ad 100 21 A M' t) A) args s 0 0 A) (F0 m 0 ls []) := by
  obtain ⟨hx, hb, hml, hown, hts, hr, hlk, hK, hN, hA, hX⟩ := id C
  unfold b_X6_goesOf_0 at h
  refine lv_aload_n hx hb dX6_goesOf_0 rfl (lv_at hl 0 rfl) ?_
  refine lv_iconst (v := 0) hx hb dX6_goesOf_1 (by decide) ?_
  refine lv_iload_n hx hb dX6_goesOf_2 rfl (lv_at hl 1 rfl) ?_
  obtain ⟨r3, M3, g3, h⟩ := bd2_of h
  refine call_iV (As := [.int (0 : Int32), .int x1]) (rest := []) C hP hD hS (c_X6_asksOf g3) (iL (by decide)) ⟨6, _, _, ent_6 (by decide), rfl, rfl⟩ (gV wd_1038 wd_1040 wd_40 wd_75 wd_1041) ev_X6_asksOf ⟨rfl, rfl⟩ ⟨Nat.le_of_ble_eq_true rfl, Nat.le_of_ble_eq_true rfl⟩ hl.1 rfl (Nat.le_of_ble_eq_true rfl) dX6_goesOf_3 (fun H locs hP hD hS => ?_)
  refine lv_istore_n (lv' := [(2, .int r3), (0, .ref (ad 100)), (1, .int x1)]) hx hb dX6_goesOf_6 rfl hl (by decide) rfl (fun ls hl => ?_)
  refine lv_aload_n hx hb dX6_goesOf_7 rfl (lv_at hl 1 rfl) ?_
  refine gf_6_3 C hP (iL (by decide)) (by decide) wd_885 dX6_goesOf_8 ?_
  refine lv_iconst (v := 5) hx hb dX6_goesOf_11 (by decide) ?_
  refine lv_iload_n hx hb dX6_goesOf_12 rfl (lv_at hl 2 rfl) ?_
  refine lv_imul hx hb dX6_goesOf_13 ?_
  refine lv_iconst (v := 4) hx hb dX6_goesOf_14 (by decide) ?_
  refine lv_iadd hx hb dX6_goesOf_15 ?_
  obtain ⟨gi1, h⟩ := gd_of h
  refine ia_ld C hP (iL (by decide)) (by decide) gi1 dX6_goesOf_16 ?_
  refine lv_istore_n (lv' := [(3, .int (AI M3 103 (((5 : Int32) * x1) + (4 : Int32)).toNatClampNeg)), (2, .int r3), (0, .ref (ad 100)), (1, .int x1)]) hx hb dX6_goesOf_17 rfl hl (by decide) rfl (fun ls hl => ?_)
  exact w_X6_goesOf_18 C hP hD hS (lv_sub hl [2, 3, 1, 0] rfl) h
def f_X6_goesOf (N : Nat) (x1 : Int32) (M : Mem) : Option (Int32 × Mem) := b_X6_goesOf_0 N x1 M
theorem c_X6_goesOf {l : Launch} {D : va_G} {cy : Nat → ClassId} {ad : Nat → Nat} {zz : (Nat → Nat) × (Nat → Nat)} {N : Nat} {x1 : Int32} {M : Mem} {rr : Int32} {M' : Mem} (h : f_X6_goesOf N x1 M = some (rr, M')) : CTi l D cy ad zz 100 21 yX6_goesOf (.code yX6_goesOf cX6_goesOf 6 (some .int) :: tb) ({ frames := 3, cells := 0, slots := 0, locals := 68 } : Room) [.ref (ad 100), .int x1] M rr M' := by
  intro sz
  refine CX.of (by decide +kernel) (fun p e s m args below meth c H ls C hP hD hS hl => ?_) (Nat.le_of_ble_eq_true rfl)
  exact w_X6_goesOf_0 C hP hD hS hl h
theorem ev_X6_goesOf : yX6_goesOf.cls = RX6 ∧ yX6_goesOf.cls ≠ "java/lang/invoke/MethodHandle" ∧ yX6_goesOf.cls ≠ "java/lang/invoke/VarHandle" ∧ (parseMethodDescriptor yX6_goesOf.desc).map (fun d => d.parameters.length) = some 1 := by decide +kernel
def b_X6_mindsOf_44 (N : Nat) (x1 : Int32) (x2 : Int32) (M : Mem) : Option (Int32 × Mem) := some ((x2 + (10 : Int32)), M)
set_option maxHeartbeats 4000000 in
set_option maxRecDepth 100000 in
theorem w_X6_mindsOf_44 (C : CX p s m args meth c cX6_mindsOf 3 (some .int) RX6 D cy ad zz 100 21 A) {N : Nat} {M : Mem} {x1 : Int32} {rr : Int32} {M' : Mem} {x2 : Int32} {H : Heap} {locs : List Loc} (hP : va_P D vwCl (pool cy ad 100 21 M) H) (hD : va_D A (pool cy ad 100 21 M)) (hS : va_S A s.heap H locs) {ls : Array Slot} (hl : lv_has ls 3 [(2, .int x2)]) (h : b_X6_mindsOf_44 N x1 x2 M = some (rr, M')) : W p l e ({ frames := 3, cells := 0, slots := 0, locals := 68 } : Room) s m args below meth c H locs 0 0 (MQ below (va_Qi (fun (x : Int32) (_ : Unit) => x = rr) (fun _ t => PA D cy ad 100 21 A M' t) A) args s 0 0 A) (F0 m 44 ls []) := by
  obtain ⟨hx, hb, hml, hown, hts, hr, hlk, hK, hN, hA, hX⟩ := id C
  unfold b_X6_mindsOf_44 at h
  refine lv_iload_n hx hb dX6_mindsOf_44 rfl (lv_at hl 0 rfl) ?_
  refine lv_bipush (v := 10) hx hb dX6_mindsOf_45 (by decide) ?_
  refine lv_iadd hx hb dX6_mindsOf_47 ?_
  exact rt_i (r := (x2 + (10 : Int32))) C hP hD hS dX6_mindsOf_48 (rw_end h)
def b_X6_mindsOf_0 (N : Nat) (x1 : Int32) (M : Mem) : Option (Int32 × Mem) := bd2 (f_X6_asksOf N (1 : Int32) x1 M) fun r3 M3 => gd (inb x1 (len 101)) ((if (AI M3 101 x1.toNatClampNeg) = 1 then b_X6_mindsOf_44 N x1 r3 M3 else (if (AI M3 101 x1.toNatClampNeg) = 2 then some (r3, M3) else (if (AI M3 101 x1.toNatClampNeg) = 3 then b_X6_mindsOf_44 N x1 r3 M3 else (if (AI M3 101 x1.toNatClampNeg) = 4 then gd (inb (((5 : Int32) * x1) + (3 : Int32)) (len 103)) (gd (inb x1 (len 102)) ((if (AI M3 103 (((5 : Int32) * x1) + (3 : Int32)).toNatClampNeg) ≤ (AI M3 102 x1.toNatClampNeg) then some ((0 : Int32), M3) else some (r3, M3)))) else some (r3, M3))))))
set_option maxHeartbeats 4000000 in
set_option maxRecDepth 100000 in
theorem w_X6_mindsOf_0 (C : CX p s m args meth c cX6_mindsOf 3 (some .int) RX6 D cy ad zz 100 21 A) {N : Nat} {M : Mem} {x1 : Int32} {rr : Int32} {M' : Mem} {H : Heap} {locs : List Loc} (hP : va_P D vwCl (pool cy ad 100 21 M) H) (hD : va_D A (pool cy ad 100 21 M)) (hS : va_S A s.heap H locs) {ls : Array Slot} (hl : lv_has ls 3 [(0, .ref (ad 100)), (1, .int x1)]) (h : b_X6_mindsOf_0 N x1 M = some (rr, M')) : W p l e ({ frames := 3, cells := 0, slots := 0, locals := 68 } : Room) s m args below meth c H locs 0 0 (MQ below (va_Qi (fun (x : Int32) (_ : Unit) => x = rr) (fun _ t => PA D cy ad 100 21 A M' t) A) args s 0 0 A) (F0 m 0 ls []) := by
  obtain ⟨hx, hb, hml, hown, hts, hr, hlk, hK, hN, hA, hX⟩ := id C
  unfold b_X6_mindsOf_0 at h
  refine lv_aload_n hx hb dX6_mindsOf_0 rfl (lv_at hl 0 rfl) ?_
  refine lv_iconst (v := 1) hx hb dX6_mindsOf_1 (by decide) ?_
  refine lv_iload_n hx hb dX6_mindsOf_2 rfl (lv_at hl 1 rfl) ?_
  obtain ⟨r3, M3, g3, h⟩ := bd2_of h
  refine call_iV (As := [.int (1 : Int32), .int x1]) (rest := []) C hP hD hS (c_X6_asksOf g3) (iL (by decide)) ⟨6, _, _, ent_6 (by decide), rfl, rfl⟩ (gV wd_1038 wd_1040 wd_40 wd_75 wd_1041) ev_X6_asksOf ⟨rfl, rfl⟩ ⟨Nat.le_of_ble_eq_true rfl, Nat.le_of_ble_eq_true rfl⟩ hl.1 rfl (Nat.le_of_ble_eq_true rfl) dX6_mindsOf_3 (fun H locs hP hD hS => ?_)
  refine lv_istore_n (lv' := [(2, .int r3), (0, .ref (ad 100)), (1, .int x1)]) hx hb dX6_mindsOf_6 rfl hl (by decide) rfl (fun ls hl => ?_)
  refine lv_aload_n hx hb dX6_mindsOf_7 rfl (lv_at hl 1 rfl) ?_
  refine gf_6_1 C hP (iL (by decide)) (by decide) wd_883 dX6_mindsOf_8 ?_
  refine lv_iload_n hx hb dX6_mindsOf_11 rfl (lv_at hl 2 rfl) ?_
  obtain ⟨gi1, h⟩ := gd_of h
  refine ia_ld C hP (iL (by decide)) (by decide) gi1 dX6_mindsOf_12 ?_
  by_cases c13_1 : (AI M3 101 x1.toNatClampNeg) = 1
  · replace h := it_t c13_1 h
    refine lv_tableIn (off := 31) (tgt := 44) hx hb dX6_mindsOf_13 (by rw [c13_1]; decide) (by rw [c13_1]; decide) (by rw [c13_1]; rfl) (by decide) ?_
    exact w_X6_mindsOf_44 C hP hD hS (lv_sub hl [0] rfl) h
  · replace h := it_f c13_1 h
    by_cases c13_2 : (AI M3 101 x1.toNatClampNeg) = 2
    · replace h := it_t c13_2 h
      refine lv_tableIn (off := 61) (tgt := 74) hx hb dX6_mindsOf_13 (by rw [c13_2]; decide) (by rw [c13_2]; decide) (by rw [c13_2]; rfl) (by decide) ?_
      refine lv_iload_n hx hb dX6_mindsOf_74 rfl (lv_at hl 0 rfl) ?_
      exact rt_i (r := r3) C hP hD hS dX6_mindsOf_75 (rw_end h)
    · replace h := it_f c13_2 h
      by_cases c13_3 : (AI M3 101 x1.toNatClampNeg) = 3
      · replace h := it_t c13_3 h
        refine lv_tableIn (off := 31) (tgt := 44) hx hb dX6_mindsOf_13 (by rw [c13_3]; decide) (by rw [c13_3]; decide) (by rw [c13_3]; rfl) (by decide) ?_
        exact w_X6_mindsOf_44 C hP hD hS (lv_sub hl [0] rfl) h
      · replace h := it_f c13_3 h
        by_cases c13_4 : (AI M3 101 x1.toNatClampNeg) = 4
        · replace h := it_t c13_4 h
          refine lv_tableIn (off := 36) (tgt := 49) hx hb dX6_mindsOf_13 (by rw [c13_4]; decide) (by rw [c13_4]; decide) (by rw [c13_4]; rfl) (by decide) ?_
          refine lv_aload_n hx hb dX6_mindsOf_49 rfl (lv_at hl 1 rfl) ?_
          refine gf_6_3 C hP (iL (by decide)) (by decide) wd_885 dX6_mindsOf_50 ?_
          refine lv_iconst (v := 5) hx hb dX6_mindsOf_53 (by decide) ?_
          refine lv_iload_n hx hb dX6_mindsOf_54 rfl (lv_at hl 2 rfl) ?_
          refine lv_imul hx hb dX6_mindsOf_55 ?_
          refine lv_iconst (v := 3) hx hb dX6_mindsOf_56 (by decide) ?_
          refine lv_iadd hx hb dX6_mindsOf_57 ?_
          obtain ⟨gi2, h⟩ := gd_of h
          refine ia_ld C hP (iL (by decide)) (by decide) gi2 dX6_mindsOf_58 ?_
          refine lv_aload_n hx hb dX6_mindsOf_59 rfl (lv_at hl 1 rfl) ?_
          refine gf_6_2 C hP (iL (by decide)) (by decide) wd_884 dX6_mindsOf_60 ?_
          refine lv_iload_n hx hb dX6_mindsOf_63 rfl (lv_at hl 2 rfl) ?_
          obtain ⟨gi3, h⟩ := gd_of h
          refine ia_ld C hP (iL (by decide)) (by decide) gi3 dX6_mindsOf_64 ?_
          refine lv_icmp_le (tgt := 72) hx hb dX6_mindsOf_65 (by decide) (fun c65 => ?_) (fun c65 => ?_)
          · replace h := it_t c65 h
            refine lv_iconst (v := 0) hx hb dX6_mindsOf_72 (by decide) ?_
            exact rt_i (r := (0 : Int32)) C hP hD hS dX6_mindsOf_73 (rw_end h)
          · replace h := it_f c65 h
            refine lv_iload_n hx hb dX6_mindsOf_68 rfl (lv_at hl 0 rfl) ?_
            refine lv_goto (tgt := 73) hx hb dX6_mindsOf_69 (by decide) ?_
            exact rt_i (r := r3) C hP hD hS dX6_mindsOf_73 (rw_end h)
        · replace h := it_f c13_4 h
          have e13_1 : (AI M3 101 x1.toNatClampNeg).toInt ≠ 1 := fun q => c13_1 (Int32.toInt_inj.mp (q.trans (by decide)))
          have e13_2 : (AI M3 101 x1.toNatClampNeg).toInt ≠ 2 := fun q => c13_2 (Int32.toInt_inj.mp (q.trans (by decide)))
          have e13_3 : (AI M3 101 x1.toNatClampNeg).toInt ≠ 3 := fun q => c13_3 (Int32.toInt_inj.mp (q.trans (by decide)))
          have e13_4 : (AI M3 101 x1.toNatClampNeg).toInt ≠ 4 := fun q => c13_4 (Int32.toInt_inj.mp (q.trans (by decide)))
          refine lv_tableOut (tgt := 74) hx hb dX6_mindsOf_13 (by omega) (by decide) ?_
          refine lv_iload_n hx hb dX6_mindsOf_74 rfl (lv_at hl 0 rfl) ?_
          exact rt_i (r := r3) C hP hD hS dX6_mindsOf_75 (rw_end h)
def f_X6_mindsOf (N : Nat) (x1 : Int32) (M : Mem) : Option (Int32 × Mem) := b_X6_mindsOf_0 N x1 M
theorem c_X6_mindsOf {l : Launch} {D : va_G} {cy : Nat → ClassId} {ad : Nat → Nat} {zz : (Nat → Nat) × (Nat → Nat)} {N : Nat} {x1 : Int32} {M : Mem} {rr : Int32} {M' : Mem} (h : f_X6_mindsOf N x1 M = some (rr, M')) : CTi l D cy ad zz 100 21 yX6_mindsOf (.code yX6_mindsOf cX6_mindsOf 3 (some .int) :: tb) ({ frames := 3, cells := 0, slots := 0, locals := 68 } : Room) [.ref (ad 100), .int x1] M rr M' := by
  intro sz
  refine CX.of (by decide +kernel) (fun p e s m args below meth c H ls C hP hD hS hl => ?_) (Nat.le_of_ble_eq_true rfl)
  exact w_X6_mindsOf_0 C hP hD hS hl h
theorem ev_X6_mindsOf : yX6_mindsOf.cls = RX6 ∧ yX6_mindsOf.cls ≠ "java/lang/invoke/MethodHandle" ∧ yX6_mindsOf.cls ≠ "java/lang/invoke/VarHandle" ∧ (parseMethodDescriptor yX6_mindsOf.desc).map (fun d => d.parameters.length) = some 1 := by decide +kernel
def b_X6_wearsOf_0 (N : Nat) (x1 : Int32) (M : Mem) : Option (Int32 × Mem) := gd (inb x1 (len 101)) ((if (AI M 101 x1.toNatClampNeg) = (4 : Int32) then some ((0 : Int32), M) else bd2 (f_X6_asksOf N (2 : Int32) x1 M) fun r15 M15 => gd (inb x1 (len 101)) ((if (AI M15 101 x1.toNatClampNeg) = 2 then gd (inb x1 (len 102)) (some ((r15 + (AI M15 102 x1.toNatClampNeg)), M15)) else (if (AI M15 101 x1.toNatClampNeg) = 3 then (if ((FI M15 100 7) - (FI M15 100 7) / (3 : Int32) * (3 : Int32)) = 0 then some (r15, M15) else some ((0 : Int32), M15)) else (if (AI M15 101 x1.toNatClampNeg) = 4 then some (r15, M15) else (if (AI M15 101 x1.toNatClampNeg) = 5 then some (((2 : Int32) * r15), M15) else some (r15, M15))))))))
set_option maxHeartbeats 4000000 in
set_option maxRecDepth 100000 in
theorem w_X6_wearsOf_0 (C : CX p s m args meth c cX6_wearsOf 3 (some .int) RX6 D cy ad zz 100 21 A) {N : Nat} {M : Mem} {x1 : Int32} {rr : Int32} {M' : Mem} {H : Heap} {locs : List Loc} (hP : va_P D vwCl (pool cy ad 100 21 M) H) (hD : va_D A (pool cy ad 100 21 M)) (hS : va_S A s.heap H locs) {ls : Array Slot} (hl : lv_has ls 3 [(0, .ref (ad 100)), (1, .int x1)]) (h : b_X6_wearsOf_0 N x1 M = some (rr, M')) : W p l e ({ frames := 3, cells := 0, slots := 0, locals := 68 } : Room) s m args below meth c H locs 0 0 (MQ below (va_Qi (fun (x : Int32) (_ : Unit) => x = rr) (fun _ t => PA D cy ad 100 21 A M' t) A) args s 0 0 A) (F0 m 0 ls []) := by
  obtain ⟨hx, hb, hml, hown, hts, hr, hlk, hK, hN, hA, hX⟩ := id C
  unfold b_X6_wearsOf_0 at h
  refine lv_aload_n hx hb dX6_wearsOf_0 rfl (lv_at hl 0 rfl) ?_
  refine gf_6_1 C hP (iL (by decide)) (by decide) wd_883 dX6_wearsOf_1 ?_
  refine lv_iload_n hx hb dX6_wearsOf_4 rfl (lv_at hl 1 rfl) ?_
  obtain ⟨gi1, h⟩ := gd_of h
  refine ia_ld C hP (iL (by decide)) (by decide) gi1 dX6_wearsOf_5 ?_
  refine lv_iconst (v := 4) hx hb dX6_wearsOf_6 (by decide) ?_
  refine lv_icmp_ne (tgt := 12) hx hb dX6_wearsOf_7 (by decide) (fun c7 => ?_) (fun c7 => ?_)
  · replace h := it_f c7 h
    refine lv_aload_n hx hb dX6_wearsOf_12 rfl (lv_at hl 0 rfl) ?_
    refine lv_iconst (v := 2) hx hb dX6_wearsOf_13 (by decide) ?_
    refine lv_iload_n hx hb dX6_wearsOf_14 rfl (lv_at hl 1 rfl) ?_
    obtain ⟨r15, M15, g15, h⟩ := bd2_of h
    refine call_iV (As := [.int (2 : Int32), .int x1]) (rest := []) C hP hD hS (c_X6_asksOf g15) (iL (by decide)) ⟨6, _, _, ent_6 (by decide), rfl, rfl⟩ (gV wd_1038 wd_1040 wd_40 wd_75 wd_1041) ev_X6_asksOf ⟨rfl, rfl⟩ ⟨Nat.le_of_ble_eq_true rfl, Nat.le_of_ble_eq_true rfl⟩ hl.1 rfl (Nat.le_of_ble_eq_true rfl) dX6_wearsOf_15 (fun H locs hP hD hS => ?_)
    refine lv_istore_n (lv' := [(2, .int r15), (0, .ref (ad 100)), (1, .int x1)]) hx hb dX6_wearsOf_18 rfl hl (by decide) rfl (fun ls hl => ?_)
    refine lv_aload_n hx hb dX6_wearsOf_19 rfl (lv_at hl 1 rfl) ?_
    refine gf_6_1 C hP (iL (by decide)) (by decide) wd_883 dX6_wearsOf_20 ?_
    refine lv_iload_n hx hb dX6_wearsOf_23 rfl (lv_at hl 2 rfl) ?_
    obtain ⟨gi2, h⟩ := gd_of h
    refine ia_ld C hP (iL (by decide)) (by decide) gi2 dX6_wearsOf_24 ?_
    by_cases c25_2 : (AI M15 101 x1.toNatClampNeg) = 2
    · replace h := it_t c25_2 h
      refine lv_tableIn (off := 31) (tgt := 56) hx hb dX6_wearsOf_25 (by rw [c25_2]; decide) (by rw [c25_2]; decide) (by rw [c25_2]; rfl) (by decide) ?_
      refine lv_iload_n hx hb dX6_wearsOf_56 rfl (lv_at hl 0 rfl) ?_
      refine lv_aload_n hx hb dX6_wearsOf_57 rfl (lv_at hl 1 rfl) ?_
      refine gf_6_2 C hP (iL (by decide)) (by decide) wd_884 dX6_wearsOf_58 ?_
      refine lv_iload_n hx hb dX6_wearsOf_61 rfl (lv_at hl 2 rfl) ?_
      obtain ⟨gi3, h⟩ := gd_of h
      refine ia_ld C hP (iL (by decide)) (by decide) gi3 dX6_wearsOf_62 ?_
      refine lv_iadd hx hb dX6_wearsOf_63 ?_
      exact rt_i (r := (r15 + (AI M15 102 x1.toNatClampNeg))) C hP hD hS dX6_wearsOf_64 (rw_end h)
    · replace h := it_f c25_2 h
      by_cases c25_3 : (AI M15 101 x1.toNatClampNeg) = 3
      · replace h := it_t c25_3 h
        refine lv_tableIn (off := 40) (tgt := 65) hx hb dX6_wearsOf_25 (by rw [c25_3]; decide) (by rw [c25_3]; decide) (by rw [c25_3]; rfl) (by decide) ?_
        refine lv_aload_n hx hb dX6_wearsOf_65 rfl (lv_at hl 1 rfl) ?_
        refine gf_6_7 C hP (iL (by decide)) (by decide) wd_889 dX6_wearsOf_66 ?_
        refine lv_iconst (v := 3) hx hb dX6_wearsOf_69 (by decide) ?_
        refine lv_irem hx hb dX6_wearsOf_70 (by decide) ?_
        refine lv_if_ne (tgt := 78) hx hb dX6_wearsOf_71 (by decide) (fun c71 => ?_) (fun c71 => ?_)
        · replace h := it_f c71 h
          refine lv_iconst (v := 0) hx hb dX6_wearsOf_78 (by decide) ?_
          exact rt_i (r := (0 : Int32)) C hP hD hS dX6_wearsOf_79 (rw_end h)
        · replace h := it_t c71 h
          refine lv_iload_n hx hb dX6_wearsOf_74 rfl (lv_at hl 0 rfl) ?_
          refine lv_goto (tgt := 79) hx hb dX6_wearsOf_75 (by decide) ?_
          exact rt_i (r := r15) C hP hD hS dX6_wearsOf_79 (rw_end h)
      · replace h := it_f c25_3 h
        by_cases c25_4 : (AI M15 101 x1.toNatClampNeg) = 4
        · replace h := it_t c25_4 h
          refine lv_tableIn (off := 59) (tgt := 84) hx hb dX6_wearsOf_25 (by rw [c25_4]; decide) (by rw [c25_4]; decide) (by rw [c25_4]; rfl) (by decide) ?_
          refine lv_iload_n hx hb dX6_wearsOf_84 rfl (lv_at hl 0 rfl) ?_
          exact rt_i (r := r15) C hP hD hS dX6_wearsOf_85 (rw_end h)
        · replace h := it_f c25_4 h
          by_cases c25_5 : (AI M15 101 x1.toNatClampNeg) = 5
          · replace h := it_t c25_5 h
            refine lv_tableIn (off := 55) (tgt := 80) hx hb dX6_wearsOf_25 (by rw [c25_5]; decide) (by rw [c25_5]; decide) (by rw [c25_5]; rfl) (by decide) ?_
            refine lv_iconst (v := 2) hx hb dX6_wearsOf_80 (by decide) ?_
            refine lv_iload_n hx hb dX6_wearsOf_81 rfl (lv_at hl 0 rfl) ?_
            refine lv_imul hx hb dX6_wearsOf_82 ?_
            exact rt_i (r := ((2 : Int32) * r15)) C hP hD hS dX6_wearsOf_83 (rw_end h)
          · replace h := it_f c25_5 h
            have e25_2 : (AI M15 101 x1.toNatClampNeg).toInt ≠ 2 := fun q => c25_2 (Int32.toInt_inj.mp (q.trans (by decide)))
            have e25_3 : (AI M15 101 x1.toNatClampNeg).toInt ≠ 3 := fun q => c25_3 (Int32.toInt_inj.mp (q.trans (by decide)))
            have e25_4 : (AI M15 101 x1.toNatClampNeg).toInt ≠ 4 := fun q => c25_4 (Int32.toInt_inj.mp (q.trans (by decide)))
            have e25_5 : (AI M15 101 x1.toNatClampNeg).toInt ≠ 5 := fun q => c25_5 (Int32.toInt_inj.mp (q.trans (by decide)))
            refine lv_tableOut (tgt := 84) hx hb dX6_wearsOf_25 (by omega) (by decide) ?_
            refine lv_iload_n hx hb dX6_wearsOf_84 rfl (lv_at hl 0 rfl) ?_
            exact rt_i (r := r15) C hP hD hS dX6_wearsOf_85 (rw_end h)
  · replace h := it_t c7 h
    refine lv_iconst (v := 0) hx hb dX6_wearsOf_10 (by decide) ?_
    exact rt_i (r := (0 : Int32)) C hP hD hS dX6_wearsOf_11 (rw_end h)
def f_X6_wearsOf (N : Nat) (x1 : Int32) (M : Mem) : Option (Int32 × Mem) := b_X6_wearsOf_0 N x1 M
theorem c_X6_wearsOf {l : Launch} {D : va_G} {cy : Nat → ClassId} {ad : Nat → Nat} {zz : (Nat → Nat) × (Nat → Nat)} {N : Nat} {x1 : Int32} {M : Mem} {rr : Int32} {M' : Mem} (h : f_X6_wearsOf N x1 M = some (rr, M')) : CTi l D cy ad zz 100 21 yX6_wearsOf (.code yX6_wearsOf cX6_wearsOf 3 (some .int) :: tb) ({ frames := 3, cells := 0, slots := 0, locals := 68 } : Room) [.ref (ad 100), .int x1] M rr M' := by
  intro sz
  refine CX.of (by decide +kernel) (fun p e s m args below meth c H ls C hP hD hS hl => ?_) (Nat.le_of_ble_eq_true rfl)
  exact w_X6_wearsOf_0 C hP hD hS hl h
theorem ev_X6_wearsOf : yX6_wearsOf.cls = RX6 ∧ yX6_wearsOf.cls ≠ "java/lang/invoke/MethodHandle" ∧ yX6_wearsOf.cls ≠ "java/lang/invoke/VarHandle" ∧ (parseMethodDescriptor yX6_wearsOf.desc).map (fun d => d.parameters.length) = some 1 := by decide +kernel
def b_X6_told_0 (N : Nat) (x1 : Int32) (x2 : Int32) (M : Mem) : Option (Int32 × Mem) := (f_X6_isOne x1 M).bind fun r2 => (if r2 = true then (f_X6_in x2 (0 : Int32) (4 : Int32) M).bind fun r15 => (if r15 = true then gd (inb (((5 : Int32) * x1) + x2) (len 103)) (some ((AI M 103 (((5 : Int32) * x1) + x2).toNatClampNeg), M)) else gd (inb x1 (len 105)) ((f_X6_in x2 (20 : Int32) ((19 : Int32) + (AI M 105 x1.toNatClampNeg)) M).bind fun r44 => (if r44 = true then gd (inb ((((16 : Int32) * x1) + x2) - (20 : Int32)) (len 104)) (some ((AI M 104 ((((16 : Int32) * x1) + x2) - (20 : Int32)).toNatClampNeg), M)) else (if x2 = 5 then gd (inb x1 (len 101)) (some ((AI M 101 x1.toNatClampNeg), M)) else (if x2 = 6 then gd (inb x1 (len 102)) (some ((AI M 102 x1.toNatClampNeg), M)) else (if x2 = 7 then bd2 (f_X6_goesOf N x1 M) fun r120 M120 => some (r120, M120) else (if x2 = 8 then bd2 (f_X6_mindsOf N x1 M) fun r126 M126 => some (r126, M126) else (if x2 = 9 then bd2 (f_X6_wearsOf N x1 M) fun r132 M132 => some (r132, M132) else (if x2 = 10 then gd (inb x1 (len 105)) (some ((AI M 105 x1.toNatClampNeg), M)) else some ((-7000 : Int32), M)))))))))) else some ((-5000 : Int32), M))
set_option maxHeartbeats 4000000 in
set_option maxRecDepth 100000 in
theorem w_X6_told_0 (C : CX p s m args meth c cX6_told 3 (some .int) RX6 D cy ad zz 100 21 A) {N : Nat} {M : Mem} {x1 : Int32} {x2 : Int32} {rr : Int32} {M' : Mem} {H : Heap} {locs : List Loc} (hP : va_P D vwCl (pool cy ad 100 21 M) H) (hD : va_D A (pool cy ad 100 21 M)) (hS : va_S A s.heap H locs) {ls : Array Slot} (hl : lv_has ls 3 [(0, .ref (ad 100)), (1, .int x1), (2, .int x2)]) (h : b_X6_told_0 N x1 x2 M = some (rr, M')) : W p l e ({ frames := 4, cells := 0, slots := 0, locals := 93 } : Room) s m args below meth c H locs 0 0 (MQ below (va_Qi (fun (x : Int32) (_ : Unit) => x = rr) (fun _ t => PA D cy ad 100 21 A M' t) A) args s 0 0 A) (F0 m 0 ls []) := by
  obtain ⟨hx, hb, hml, hown, hts, hr, hlk, hK, hN, hA, hX⟩ := id C
  unfold b_X6_told_0 at h
  refine lv_aload_n hx hb dX6_told_0 rfl (lv_at hl 0 rfl) ?_
  refine lv_iload_n hx hb dX6_told_1 rfl (lv_at hl 1 rfl) ?_
  obtain ⟨r2, g2, h⟩ := bd_of h
  refine call_iV (As := [.int x1]) (rest := []) C hP hD hS (c_X6_isOne g2) (iL (by decide)) ⟨6, _, _, ent_6 (by decide), rfl, rfl⟩ (gV wd_1034 wd_1036 wd_39 wd_75 wd_1037) ev_X6_isOne ⟨rfl, rfl⟩ ⟨Nat.le_of_ble_eq_true rfl, Nat.le_of_ble_eq_true rfl⟩ hl.1 rfl (Nat.le_of_ble_eq_true rfl) dX6_told_2 (fun H locs hP hD hS => ?_)
  refine lv_if_ne (tgt := 12) hx hb dX6_told_5 (by decide) (fun c5 => ?_) (fun c5 => ?_)
  · replace h := it_t (b2i_1 c5) h
    refine lv_iload_n hx hb dX6_told_12 rfl (lv_at hl 2 rfl) ?_
    refine lv_iconst (v := 0) hx hb dX6_told_13 (by decide) ?_
    refine lv_iconst (v := 4) hx hb dX6_told_14 (by decide) ?_
    obtain ⟨r15, g15, h⟩ := bd_of h
    refine call_iS (As := [.int x2, .int (0 : Int32), .int (4 : Int32)]) (rest := []) C hP hD hS (c_X6_in g15) (gS wd_843 wd_844 wd_75 wd_845) es_X6_in ⟨rfl, rfl⟩ ⟨Nat.le_of_ble_eq_true rfl, Nat.le_of_ble_eq_true rfl⟩ hl.1 rfl (Nat.le_of_ble_eq_true rfl) dX6_told_15 (fun H locs hP hD hS => ?_)
    refine lv_if_eq (tgt := 32) hx hb dX6_told_18 (by decide) (fun c18 => ?_) (fun c18 => ?_)
    · replace h := it_f (b2i_n c18) h
      refine lv_iload_n hx hb dX6_told_32 rfl (lv_at hl 2 rfl) ?_
      refine lv_bipush (v := 20) hx hb dX6_told_33 (by decide) ?_
      refine lv_bipush (v := 19) hx hb dX6_told_35 (by decide) ?_
      refine lv_aload_n hx hb dX6_told_37 rfl (lv_at hl 0 rfl) ?_
      refine gf_6_5 C hP (iL (by decide)) (by decide) wd_887 dX6_told_38 ?_
      refine lv_iload_n hx hb dX6_told_41 rfl (lv_at hl 1 rfl) ?_
      obtain ⟨gi1, h⟩ := gd_of h
      refine ia_ld C hP (iL (by decide)) (by decide) gi1 dX6_told_42 ?_
      refine lv_iadd hx hb dX6_told_43 ?_
      obtain ⟨r44, g44, h⟩ := bd_of h
      refine call_iS (As := [.int x2, .int (20 : Int32), .int ((19 : Int32) + (AI M 105 x1.toNatClampNeg))]) (rest := []) C hP hD hS (c_X6_in g44) (gS wd_843 wd_844 wd_75 wd_845) es_X6_in ⟨rfl, rfl⟩ ⟨Nat.le_of_ble_eq_true rfl, Nat.le_of_ble_eq_true rfl⟩ hl.1 rfl (Nat.le_of_ble_eq_true rfl) dX6_told_44 (fun H locs hP hD hS => ?_)
      refine lv_if_eq (tgt := 65) hx hb dX6_told_47 (by decide) (fun c47 => ?_) (fun c47 => ?_)
      · replace h := it_f (b2i_n c47) h
        refine lv_iload_n hx hb dX6_told_65 rfl (lv_at hl 2 rfl) ?_
        by_cases c66_5 : x2 = 5
        · replace h := it_t c66_5 h
          refine lv_tableIn (off := 38) (tgt := 104) hx hb dX6_told_66 (by rw [c66_5]; decide) (by rw [c66_5]; decide) (by rw [c66_5]; rfl) (by decide) ?_
          refine lv_aload_n hx hb dX6_told_104 rfl (lv_at hl 0 rfl) ?_
          refine gf_6_1 C hP (iL (by decide)) (by decide) wd_883 dX6_told_105 ?_
          refine lv_iload_n hx hb dX6_told_108 rfl (lv_at hl 1 rfl) ?_
          obtain ⟨gi2, h⟩ := gd_of h
          refine ia_ld C hP (iL (by decide)) (by decide) gi2 dX6_told_109 ?_
          exact rt_i (r := (AI M 101 x1.toNatClampNeg)) C hP hD hS dX6_told_110 (rw_end h)
        · replace h := it_f c66_5 h
          by_cases c66_6 : x2 = 6
          · replace h := it_t c66_6 h
            refine lv_tableIn (off := 45) (tgt := 111) hx hb dX6_told_66 (by rw [c66_6]; decide) (by rw [c66_6]; decide) (by rw [c66_6]; rfl) (by decide) ?_
            refine lv_aload_n hx hb dX6_told_111 rfl (lv_at hl 0 rfl) ?_
            refine gf_6_2 C hP (iL (by decide)) (by decide) wd_884 dX6_told_112 ?_
            refine lv_iload_n hx hb dX6_told_115 rfl (lv_at hl 1 rfl) ?_
            obtain ⟨gi3, h⟩ := gd_of h
            refine ia_ld C hP (iL (by decide)) (by decide) gi3 dX6_told_116 ?_
            exact rt_i (r := (AI M 102 x1.toNatClampNeg)) C hP hD hS dX6_told_117 (rw_end h)
          · replace h := it_f c66_6 h
            by_cases c66_7 : x2 = 7
            · replace h := it_t c66_7 h
              refine lv_tableIn (off := 52) (tgt := 118) hx hb dX6_told_66 (by rw [c66_7]; decide) (by rw [c66_7]; decide) (by rw [c66_7]; rfl) (by decide) ?_
              refine lv_aload_n hx hb dX6_told_118 rfl (lv_at hl 0 rfl) ?_
              refine lv_iload_n hx hb dX6_told_119 rfl (lv_at hl 1 rfl) ?_
              obtain ⟨r120, M120, g120, h⟩ := bd2_of h
              refine call_iV (As := [.int x1]) (rest := []) C hP hD hS (c_X6_goesOf g120) (iL (by decide)) ⟨6, _, _, ent_6 (by decide), rfl, rfl⟩ (gV wd_1064 wd_1066 wd_42 wd_75 wd_1067) ev_X6_goesOf ⟨rfl, rfl⟩ ⟨Nat.le_of_ble_eq_true rfl, Nat.le_of_ble_eq_true rfl⟩ hl.1 rfl (Nat.le_of_ble_eq_true rfl) dX6_told_120 (fun H locs hP hD hS => ?_)
              exact rt_i (r := r120) C hP hD hS dX6_told_123 (rw_end h)
            · replace h := it_f c66_7 h
              by_cases c66_8 : x2 = 8
              · replace h := it_t c66_8 h
                refine lv_tableIn (off := 58) (tgt := 124) hx hb dX6_told_66 (by rw [c66_8]; decide) (by rw [c66_8]; decide) (by rw [c66_8]; rfl) (by decide) ?_
                refine lv_aload_n hx hb dX6_told_124 rfl (lv_at hl 0 rfl) ?_
                refine lv_iload_n hx hb dX6_told_125 rfl (lv_at hl 1 rfl) ?_
                obtain ⟨r126, M126, g126, h⟩ := bd2_of h
                refine call_iV (As := [.int x1]) (rest := []) C hP hD hS (c_X6_mindsOf g126) (iL (by decide)) ⟨6, _, _, ent_6 (by decide), rfl, rfl⟩ (gV wd_1068 wd_1070 wd_43 wd_75 wd_1071) ev_X6_mindsOf ⟨rfl, rfl⟩ ⟨Nat.le_of_ble_eq_true rfl, Nat.le_of_ble_eq_true rfl⟩ hl.1 rfl (Nat.le_of_ble_eq_true rfl) dX6_told_126 (fun H locs hP hD hS => ?_)
                exact rt_i (r := r126) C hP hD hS dX6_told_129 (rw_end h)
              · replace h := it_f c66_8 h
                by_cases c66_9 : x2 = 9
                · replace h := it_t c66_9 h
                  refine lv_tableIn (off := 64) (tgt := 130) hx hb dX6_told_66 (by rw [c66_9]; decide) (by rw [c66_9]; decide) (by rw [c66_9]; rfl) (by decide) ?_
                  refine lv_aload_n hx hb dX6_told_130 rfl (lv_at hl 0 rfl) ?_
                  refine lv_iload_n hx hb dX6_told_131 rfl (lv_at hl 1 rfl) ?_
                  obtain ⟨r132, M132, g132, h⟩ := bd2_of h
                  refine call_iV (As := [.int x1]) (rest := []) C hP hD hS (c_X6_wearsOf g132) (iL (by decide)) ⟨6, _, _, ent_6 (by decide), rfl, rfl⟩ (gV wd_1072 wd_1074 wd_44 wd_75 wd_1075) ev_X6_wearsOf ⟨rfl, rfl⟩ ⟨Nat.le_of_ble_eq_true rfl, Nat.le_of_ble_eq_true rfl⟩ hl.1 rfl (Nat.le_of_ble_eq_true rfl) dX6_told_132 (fun H locs hP hD hS => ?_)
                  exact rt_i (r := r132) C hP hD hS dX6_told_135 (rw_end h)
                · replace h := it_f c66_9 h
                  by_cases c66_10 : x2 = 10
                  · replace h := it_t c66_10 h
                    refine lv_tableIn (off := 70) (tgt := 136) hx hb dX6_told_66 (by rw [c66_10]; decide) (by rw [c66_10]; decide) (by rw [c66_10]; rfl) (by decide) ?_
                    refine lv_aload_n hx hb dX6_told_136 rfl (lv_at hl 0 rfl) ?_
                    refine gf_6_5 C hP (iL (by decide)) (by decide) wd_887 dX6_told_137 ?_
                    refine lv_iload_n hx hb dX6_told_140 rfl (lv_at hl 1 rfl) ?_
                    obtain ⟨gi4, h⟩ := gd_of h
                    refine ia_ld C hP (iL (by decide)) (by decide) gi4 dX6_told_141 ?_
                    exact rt_i (r := (AI M 105 x1.toNatClampNeg)) C hP hD hS dX6_told_142 (rw_end h)
                  · replace h := it_f c66_10 h
                    have e66_5 : x2.toInt ≠ 5 := fun q => c66_5 (Int32.toInt_inj.mp (q.trans (by decide)))
                    have e66_6 : x2.toInt ≠ 6 := fun q => c66_6 (Int32.toInt_inj.mp (q.trans (by decide)))
                    have e66_7 : x2.toInt ≠ 7 := fun q => c66_7 (Int32.toInt_inj.mp (q.trans (by decide)))
                    have e66_8 : x2.toInt ≠ 8 := fun q => c66_8 (Int32.toInt_inj.mp (q.trans (by decide)))
                    have e66_9 : x2.toInt ≠ 9 := fun q => c66_9 (Int32.toInt_inj.mp (q.trans (by decide)))
                    have e66_10 : x2.toInt ≠ 10 := fun q => c66_10 (Int32.toInt_inj.mp (q.trans (by decide)))
                    refine lv_tableOut (tgt := 143) hx hb dX6_told_66 (by omega) (by decide) ?_
                    refine lv_sipush (v := -7000) hx hb dX6_told_143 (by decide) ?_
                    exact rt_i (r := (-7000 : Int32)) C hP hD hS dX6_told_146 (rw_end h)
      · replace h := it_t (b2i_1 c47) h
        refine lv_aload_n hx hb dX6_told_50 rfl (lv_at hl 0 rfl) ?_
        refine gf_6_4 C hP (iL (by decide)) (by decide) wd_886 dX6_told_51 ?_
        refine lv_bipush (v := 16) hx hb dX6_told_54 (by decide) ?_
        refine lv_iload_n hx hb dX6_told_56 rfl (lv_at hl 1 rfl) ?_
        refine lv_imul hx hb dX6_told_57 ?_
        refine lv_iload_n hx hb dX6_told_58 rfl (lv_at hl 2 rfl) ?_
        refine lv_iadd hx hb dX6_told_59 ?_
        refine lv_bipush (v := 20) hx hb dX6_told_60 (by decide) ?_
        refine lv_isub hx hb dX6_told_62 ?_
        obtain ⟨gi5, h⟩ := gd_of h
        refine ia_ld C hP (iL (by decide)) (by decide) gi5 dX6_told_63 ?_
        exact rt_i (r := (AI M 104 ((((16 : Int32) * x1) + x2) - (20 : Int32)).toNatClampNeg)) C hP hD hS dX6_told_64 (rw_end h)
    · replace h := it_t (b2i_1 c18) h
      refine lv_aload_n hx hb dX6_told_21 rfl (lv_at hl 0 rfl) ?_
      refine gf_6_3 C hP (iL (by decide)) (by decide) wd_885 dX6_told_22 ?_
      refine lv_iconst (v := 5) hx hb dX6_told_25 (by decide) ?_
      refine lv_iload_n hx hb dX6_told_26 rfl (lv_at hl 1 rfl) ?_
      refine lv_imul hx hb dX6_told_27 ?_
      refine lv_iload_n hx hb dX6_told_28 rfl (lv_at hl 2 rfl) ?_
      refine lv_iadd hx hb dX6_told_29 ?_
      obtain ⟨gi6, h⟩ := gd_of h
      refine ia_ld C hP (iL (by decide)) (by decide) gi6 dX6_told_30 ?_
      exact rt_i (r := (AI M 103 (((5 : Int32) * x1) + x2).toNatClampNeg)) C hP hD hS dX6_told_31 (rw_end h)
  · replace h := it_f (b2i_n c5) h
    refine lv_sipush (v := -5000) hx hb dX6_told_8 (by decide) ?_
    exact rt_i (r := (-5000 : Int32)) C hP hD hS dX6_told_11 (rw_end h)
def f_X6_told (N : Nat) (x1 : Int32) (x2 : Int32) (M : Mem) : Option (Int32 × Mem) := b_X6_told_0 N x1 x2 M
theorem c_X6_told {l : Launch} {D : va_G} {cy : Nat → ClassId} {ad : Nat → Nat} {zz : (Nat → Nat) × (Nat → Nat)} {N : Nat} {x1 : Int32} {x2 : Int32} {M : Mem} {rr : Int32} {M' : Mem} (h : f_X6_told N x1 x2 M = some (rr, M')) : CTi l D cy ad zz 100 21 yX6_told (.code yX6_told cX6_told 3 (some .int) :: tb) ({ frames := 4, cells := 0, slots := 0, locals := 93 } : Room) [.ref (ad 100), .int x1, .int x2] M rr M' := by
  intro sz
  refine CX.of (by decide +kernel) (fun p e s m args below meth c H ls C hP hD hS hl => ?_) (Nat.le_of_ble_eq_true rfl)
  exact w_X6_told_0 C hP hD hS hl h
theorem ev_X6_told : yX6_told.cls = RX6 ∧ yX6_told.cls ≠ "java/lang/invoke/MethodHandle" ∧ yX6_told.cls ≠ "java/lang/invoke/VarHandle" ∧ (parseMethodDescriptor yX6_told.desc).map (fun d => d.parameters.length) = some 2 := by decide +kernel
def b_X6_knit_152 (N : Nat) (x1 : Int32) (x2 : Int32) (x3 : Int32) (M : Mem) : Option (Int32 × Mem) := gd (inb (((5 : Int32) * x2) + (2 : Int32)) (len 103)) (some (x3, (sAI M 103 (((5 : Int32) * x2) + (2 : Int32)).toNatClampNeg (0 : Int32))))
set_option maxHeartbeats 4000000 in
set_option maxRecDepth 100000 in
theorem w_X6_knit_152 (C : CX p s m args meth c cX6_knit 6 (some .int) RX6 D cy ad zz 100 21 A) {N : Nat} {M : Mem} {x1 : Int32} {x2 : Int32} {rr : Int32} {M' : Mem} {x3 : Int32} {H : Heap} {locs : List Loc} (hP : va_P D vwCl (pool cy ad 100 21 M) H) (hD : va_D A (pool cy ad 100 21 M)) (hS : va_S A s.heap H locs) {ls : Array Slot} (hl : lv_has ls 6 [(0, .ref (ad 100)), (2, .int x2), (3, .int x3)]) (h : b_X6_knit_152 N x1 x2 x3 M = some (rr, M')) : W p l e ({ frames := 2, cells := 0, slots := 0, locals := 43 } : Room) s m args below meth c H locs 0 0 (MQ below (va_Qi (fun (x : Int32) (_ : Unit) => x = rr) (fun _ t => PA D cy ad 100 21 A M' t) A) args s 0 0 A) (F0 m 152 ls []) := by
  obtain ⟨hx, hb, hml, hown, hts, hr, hlk, hK, hN, hA, hX⟩ := id C
  unfold b_X6_knit_152 at h
  refine lv_aload_n hx hb dX6_knit_152 rfl (lv_at hl 0 rfl) ?_
  refine gf_6_3 C hP (iL (by decide)) (by decide) wd_885 dX6_knit_153 ?_
  refine lv_iconst (v := 5) hx hb dX6_knit_156 (by decide) ?_
  refine lv_iload_n hx hb dX6_knit_157 rfl (lv_at hl 1 rfl) ?_
  refine lv_imul hx hb dX6_knit_158 ?_
  refine lv_iconst (v := 2) hx hb dX6_knit_159 (by decide) ?_
  refine lv_iadd hx hb dX6_knit_160 ?_
  refine lv_iconst (v := 0) hx hb dX6_knit_161 (by decide) ?_
  obtain ⟨gi1, h⟩ := gd_of h
  refine ia_st C hP hD hS (iL (by decide)) (by decide) gi1 dX6_knit_162 (fun H locs hP hD hS => ?_)
  refine lv_iload_n hx hb dX6_knit_163 rfl (lv_at hl 2 rfl) ?_
  exact rt_i (r := x3) C hP hD hS dX6_knit_164 (rw_end h)
def b_X6_knit_145 (N : Nat) (x1 : Int32) (x2 : Int32) (x3 : Int32) (M : Mem) : Option (Int32 × Mem) := gd (inb x2 (len 105)) (b_X6_knit_152 N x1 x2 x3 (sAI M 105 x2.toNatClampNeg x3))
set_option maxHeartbeats 4000000 in
set_option maxRecDepth 100000 in
theorem w_X6_knit_145 (C : CX p s m args meth c cX6_knit 6 (some .int) RX6 D cy ad zz 100 21 A) {N : Nat} {M : Mem} {x1 : Int32} {x2 : Int32} {rr : Int32} {M' : Mem} {x3 : Int32} {H : Heap} {locs : List Loc} (hP : va_P D vwCl (pool cy ad 100 21 M) H) (hD : va_D A (pool cy ad 100 21 M)) (hS : va_S A s.heap H locs) {ls : Array Slot} (hl : lv_has ls 6 [(0, .ref (ad 100)), (2, .int x2), (3, .int x3)]) (h : b_X6_knit_145 N x1 x2 x3 M = some (rr, M')) : W p l e ({ frames := 2, cells := 0, slots := 0, locals := 43 } : Room) s m args below meth c H locs 0 0 (MQ below (va_Qi (fun (x : Int32) (_ : Unit) => x = rr) (fun _ t => PA D cy ad 100 21 A M' t) A) args s 0 0 A) (F0 m 145 ls []) := by
  obtain ⟨hx, hb, hml, hown, hts, hr, hlk, hK, hN, hA, hX⟩ := id C
  unfold b_X6_knit_145 at h
  refine lv_aload_n hx hb dX6_knit_145 rfl (lv_at hl 0 rfl) ?_
  refine gf_6_5 C hP (iL (by decide)) (by decide) wd_887 dX6_knit_146 ?_
  refine lv_iload_n hx hb dX6_knit_149 rfl (lv_at hl 1 rfl) ?_
  refine lv_iload_n hx hb dX6_knit_150 rfl (lv_at hl 2 rfl) ?_
  obtain ⟨gi1, h⟩ := gd_of h
  refine ia_st C hP hD hS (iL (by decide)) (by decide) gi1 dX6_knit_151 (fun H locs hP hD hS => ?_)
  exact w_X6_knit_152 C hP hD hS hl h
def b_X6_knit_139 (N : Nat) (x1 : Int32) (x2 : Int32) (k102 : Int32 → Int32 → Mem → Option (Int32 × Mem)) (x3 : Int32) (x5 : Int32) (M : Mem) : Option (Int32 × Mem) := k102 x3 (x5 + (1 : Int32)) M
set_option maxHeartbeats 4000000 in
set_option maxRecDepth 100000 in
theorem w_X6_knit_139 (C : CX p s m args meth c cX6_knit 6 (some .int) RX6 D cy ad zz 100 21 A) {N : Nat} {M : Mem} {x1 : Int32} {x2 : Int32} {k102 : Int32 → Int32 → Mem → Option (Int32 × Mem)} {rr : Int32} {M' : Mem} (hk102 : ∀ (x3 : Int32), ∀ (x5 : Int32), ∀ (M : Mem), ∀ (H : Heap) (locs : List Loc), va_P D vwCl (pool cy ad 100 21 M) H → va_D A (pool cy ad 100 21 M) → va_S A s.heap H locs → ∀ (ls : Array Slot), lv_has ls 6 [(0, .ref (ad 100)), (1, .int x1), (2, .int x2), (3, .int x3), (5, .int x5)] → k102 x3 x5 M = some (rr, M') → W p l e ({ frames := 2, cells := 0, slots := 0, locals := 43 } : Room) s m args below meth c H locs 0 0 (MQ below (va_Qi (fun (x : Int32) (_ : Unit) => x = rr) (fun _ t => PA D cy ad 100 21 A M' t) A) args s 0 0 A) (F0 m 102 ls [])) {x3 : Int32} {x5 : Int32} {H : Heap} {locs : List Loc} (hP : va_P D vwCl (pool cy ad 100 21 M) H) (hD : va_D A (pool cy ad 100 21 M)) (hS : va_S A s.heap H locs) {ls : Array Slot} (hl : lv_has ls 6 [(0, .ref (ad 100)), (1, .int x1), (2, .int x2), (3, .int x3), (5, .int x5)]) (h : b_X6_knit_139 N x1 x2 k102 x3 x5 M = some (rr, M')) : W p l e ({ frames := 2, cells := 0, slots := 0, locals := 43 } : Room) s m args below meth c H locs 0 0 (MQ below (va_Qi (fun (x : Int32) (_ : Unit) => x = rr) (fun _ t => PA D cy ad 100 21 A M' t) A) args s 0 0 A) (F0 m 139 ls []) := by
  obtain ⟨hx, hb, hml, hown, hts, hr, hlk, hK, hN, hA, hX⟩ := id C
  unfold b_X6_knit_139 at h
  refine lv_iinc (v := (x5 + (1 : Int32))) (lv' := [(5, .int (x5 + (1 : Int32))), (0, .ref (ad 100)), (1, .int x1), (2, .int x2), (3, .int x3)]) hx hb dX6_knit_139 hl (k := 4) rfl rfl (by decide) rfl (fun ls hl => ?_)
  refine lv_goto (tgt := 102) hx hb dX6_knit_142 (by decide) ?_
  exact hk102 _ _ _ _ _ hP hD hS _ (lv_sub hl [1, 2, 3, 4, 0] rfl) h
def b_X6_knit_102 (N : Nat) (x1 : Int32) (x2 : Int32) : Nat → Int32 → Int32 → Mem → Option (Int32 × Mem)
  | 0, _, _, _ => none
  | fu + 1, x3, x5, M => (if x3 ≤ x5 then b_X6_knit_145 N x1 x2 x3 M else (if (16 : Int32) ≤ x5 then b_X6_knit_145 N x1 x2 x3 M else gd (inb (((40 : Int32) * x1) + x5) (len 113)) (gd (inb (((16 : Int32) * x2) + x5) (len 104)) (b_X6_knit_139 N x1 x2 (b_X6_knit_102 N x1 x2 fu) x3 x5 (sAI M 104 (((16 : Int32) * x2) + x5).toNatClampNeg (AI M 113 (((40 : Int32) * x1) + x5).toNatClampNeg))))))
set_option maxHeartbeats 4000000 in
set_option maxRecDepth 100000 in
theorem w_X6_knit_102 (C : CX p s m args meth c cX6_knit 6 (some .int) RX6 D cy ad zz 100 21 A) {N : Nat} {x1 : Int32} {x2 : Int32} {rr : Int32} {M' : Mem}  : ∀ (fu : Nat), ∀ (x3 : Int32), ∀ (x5 : Int32), ∀ (M : Mem), ∀ (H : Heap) (locs : List Loc), va_P D vwCl (pool cy ad 100 21 M) H → va_D A (pool cy ad 100 21 M) → va_S A s.heap H locs → ∀ (ls : Array Slot), lv_has ls 6 [(0, .ref (ad 100)), (1, .int x1), (2, .int x2), (3, .int x3), (5, .int x5)] → b_X6_knit_102 N x1 x2 fu x3 x5 M = some (rr, M') → W p l e ({ frames := 2, cells := 0, slots := 0, locals := 43 } : Room) s m args below meth c H locs 0 0 (MQ below (va_Qi (fun (x : Int32) (_ : Unit) => x = rr) (fun _ t => PA D cy ad 100 21 A M' t) A) args s 0 0 A) (F0 m 102 ls []) := by
  obtain ⟨hx, hb, hml, hown, hts, hr, hlk, hK, hN, hA, hX⟩ := id C
  intro fu
  induction fu with
  | zero =>
    intro x3 x5 M H locs hP hD hS ls hl h
    exact no_some (show none = some _ from h)
  | succ fu ih =>
    intro x3 x5 M H locs hP hD hS ls hl h
    rw [b_X6_knit_102] at h
    refine lv_iload hx hb dX6_knit_102 (lv_at hl 4 rfl) ?_
    refine lv_iload_n hx hb dX6_knit_104 rfl (lv_at hl 3 rfl) ?_
    refine lv_icmp_ge (tgt := 145) hx hb dX6_knit_105 (by decide) (fun c105 => ?_) (fun c105 => ?_)
    · replace h := it_t c105 h
      exact w_X6_knit_145 C hP hD hS (lv_sub hl [0, 2, 3] rfl) h
    · replace h := it_f c105 h
      refine lv_iload hx hb dX6_knit_108 (lv_at hl 4 rfl) ?_
      refine lv_bipush (v := 16) hx hb dX6_knit_110 (by decide) ?_
      refine lv_icmp_ge (tgt := 145) hx hb dX6_knit_112 (by decide) (fun c112 => ?_) (fun c112 => ?_)
      · replace h := it_t c112 h
        exact w_X6_knit_145 C hP hD hS (lv_sub hl [0, 2, 3] rfl) h
      · replace h := it_f c112 h
        refine lv_aload_n hx hb dX6_knit_115 rfl (lv_at hl 0 rfl) ?_
        refine gf_6_4 C hP (iL (by decide)) (by decide) wd_886 dX6_knit_116 ?_
        refine lv_bipush (v := 16) hx hb dX6_knit_119 (by decide) ?_
        refine lv_iload_n hx hb dX6_knit_121 rfl (lv_at hl 2 rfl) ?_
        refine lv_imul hx hb dX6_knit_122 ?_
        refine lv_iload hx hb dX6_knit_123 (lv_at hl 4 rfl) ?_
        refine lv_iadd hx hb dX6_knit_125 ?_
        refine lv_aload_n hx hb dX6_knit_126 rfl (lv_at hl 0 rfl) ?_
        refine gf_6_20 C hP (iL (by decide)) (by decide) wd_902 dX6_knit_127 ?_
        refine lv_bipush (v := 40) hx hb dX6_knit_130 (by decide) ?_
        refine lv_iload_n hx hb dX6_knit_132 rfl (lv_at hl 1 rfl) ?_
        refine lv_imul hx hb dX6_knit_133 ?_
        refine lv_iload hx hb dX6_knit_134 (lv_at hl 4 rfl) ?_
        refine lv_iadd hx hb dX6_knit_136 ?_
        obtain ⟨gi1, h⟩ := gd_of h
        refine ia_ld C hP (iL (by decide)) (by decide) gi1 dX6_knit_137 ?_
        obtain ⟨gi2, h⟩ := gd_of h
        refine ia_st C hP hD hS (iL (by decide)) (by decide) gi2 dX6_knit_138 (fun H locs hP hD hS => ?_)
        exact w_X6_knit_139 C ih hP hD hS hl h
def b_X6_knit_80 (N : Nat) (x1 : Int32) (x2 : Int32) (x3 : Int32) (x4 : Int32) (M : Mem) : Option (Int32 × Mem) := (if x4 = 0 then some ((-2 : Int32), M) else (f_X6_isOne x2 M).bind fun r90 => (if r90 = true then b_X6_knit_102 N x1 x2 N x3 (0 : Int32) M else some ((-5 : Int32), M)))
set_option maxHeartbeats 4000000 in
set_option maxRecDepth 100000 in
theorem w_X6_knit_80 (C : CX p s m args meth c cX6_knit 6 (some .int) RX6 D cy ad zz 100 21 A) {N : Nat} {M : Mem} {x1 : Int32} {x2 : Int32} {rr : Int32} {M' : Mem} {x3 : Int32} {x4 : Int32} {H : Heap} {locs : List Loc} (hP : va_P D vwCl (pool cy ad 100 21 M) H) (hD : va_D A (pool cy ad 100 21 M)) (hS : va_S A s.heap H locs) {ls : Array Slot} (hl : lv_has ls 6 [(0, .ref (ad 100)), (1, .int x1), (2, .int x2), (3, .int x3), (4, .int x4)]) (h : b_X6_knit_80 N x1 x2 x3 x4 M = some (rr, M')) : W p l e ({ frames := 2, cells := 0, slots := 0, locals := 43 } : Room) s m args below meth c H locs 0 0 (MQ below (va_Qi (fun (x : Int32) (_ : Unit) => x = rr) (fun _ t => PA D cy ad 100 21 A M' t) A) args s 0 0 A) (F0 m 80 ls []) := by
  obtain ⟨hx, hb, hml, hown, hts, hr, hlk, hK, hN, hA, hX⟩ := id C
  unfold b_X6_knit_80 at h
  refine lv_iload hx hb dX6_knit_80 (lv_at hl 4 rfl) ?_
  refine lv_if_ne (tgt := 88) hx hb dX6_knit_82 (by decide) (fun c82 => ?_) (fun c82 => ?_)
  · replace h := it_f c82 h
    refine lv_aload_n hx hb dX6_knit_88 rfl (lv_at hl 0 rfl) ?_
    refine lv_iload_n hx hb dX6_knit_89 rfl (lv_at hl 2 rfl) ?_
    obtain ⟨r90, g90, h⟩ := bd_of h
    refine call_iV (As := [.int x2]) (rest := []) C hP hD hS (c_X6_isOne g90) (iL (by decide)) ⟨6, _, _, ent_6 (by decide), rfl, rfl⟩ (gV wd_1034 wd_1036 wd_39 wd_75 wd_1037) ev_X6_isOne ⟨rfl, rfl⟩ ⟨Nat.le_of_ble_eq_true rfl, Nat.le_of_ble_eq_true rfl⟩ hl.1 rfl (Nat.le_of_ble_eq_true rfl) dX6_knit_90 (fun H locs hP hD hS => ?_)
    refine lv_if_ne (tgt := 99) hx hb dX6_knit_93 (by decide) (fun c93 => ?_) (fun c93 => ?_)
    · replace h := it_t (b2i_1 c93) h
      refine lv_iconst (v := 0) hx hb dX6_knit_99 (by decide) ?_
      refine lv_istore (lv' := [(5, .int (0 : Int32)), (0, .ref (ad 100)), (1, .int x1), (2, .int x2), (3, .int x3), (4, .int x4)]) hx hb dX6_knit_100 hl (by decide) rfl (fun ls hl => ?_)
      exact w_X6_knit_102 C N _ _ _ _ _ hP hD hS _ (lv_sub hl [1, 2, 3, 4, 0] rfl) h
    · replace h := it_f (b2i_n c93) h
      refine lv_bipush (v := -5) hx hb dX6_knit_96 (by decide) ?_
      exact rt_i (r := (-5 : Int32)) C hP hD hS dX6_knit_98 (rw_end h)
  · replace h := it_t c82 h
    refine lv_bipush (v := -2) hx hb dX6_knit_85 (by decide) ?_
    exact rt_i (r := (-2 : Int32)) C hP hD hS dX6_knit_87 (rw_end h)
def b_X6_knit_44 (N : Nat) (x1 : Int32) (x2 : Int32) : Nat → Int32 → Int32 → Int32 → Mem → Option (Int32 × Mem)
  | 0, _, _, _, _ => none
  | fu + 1, x3, x4, x5, M => (if x3 ≤ x5 then b_X6_knit_80 N x1 x2 x3 x4 M else (if x4 = 0 then b_X6_knit_80 N x1 x2 x3 x4 M else gd (inb (((40 : Int32) * x1) + x5) (len 113)) ((f_X6_in (AI M 113 (((40 : Int32) * x1) + x5).toNatClampNeg) (0 : Int32) (4 : Int32) M).bind fun r69 => b_X6_knit_44 N x1 x2 fu x3 (b2i r69) (x5 + (1 : Int32)) M)))
set_option maxHeartbeats 4000000 in
set_option maxRecDepth 100000 in
theorem w_X6_knit_44 (C : CX p s m args meth c cX6_knit 6 (some .int) RX6 D cy ad zz 100 21 A) {N : Nat} {x1 : Int32} {x2 : Int32} {rr : Int32} {M' : Mem}  : ∀ (fu : Nat), ∀ (x3 : Int32), ∀ (x4 : Int32), ∀ (x5 : Int32), ∀ (M : Mem), ∀ (H : Heap) (locs : List Loc), va_P D vwCl (pool cy ad 100 21 M) H → va_D A (pool cy ad 100 21 M) → va_S A s.heap H locs → ∀ (ls : Array Slot), lv_has ls 6 [(0, .ref (ad 100)), (1, .int x1), (2, .int x2), (3, .int x3), (4, .int x4), (5, .int x5)] → b_X6_knit_44 N x1 x2 fu x3 x4 x5 M = some (rr, M') → W p l e ({ frames := 2, cells := 0, slots := 0, locals := 43 } : Room) s m args below meth c H locs 0 0 (MQ below (va_Qi (fun (x : Int32) (_ : Unit) => x = rr) (fun _ t => PA D cy ad 100 21 A M' t) A) args s 0 0 A) (F0 m 44 ls []) := by
  obtain ⟨hx, hb, hml, hown, hts, hr, hlk, hK, hN, hA, hX⟩ := id C
  intro fu
  induction fu with
  | zero =>
    intro x3 x4 x5 M H locs hP hD hS ls hl h
    exact no_some (show none = some _ from h)
  | succ fu ih =>
    intro x3 x4 x5 M H locs hP hD hS ls hl h
    rw [b_X6_knit_44] at h
    refine lv_iload hx hb dX6_knit_44 (lv_at hl 5 rfl) ?_
    refine lv_iload_n hx hb dX6_knit_46 rfl (lv_at hl 3 rfl) ?_
    refine lv_icmp_ge (tgt := 80) hx hb dX6_knit_47 (by decide) (fun c47 => ?_) (fun c47 => ?_)
    · replace h := it_t c47 h
      exact w_X6_knit_80 C hP hD hS (lv_sub hl [0, 1, 2, 3, 4] rfl) h
    · replace h := it_f c47 h
      refine lv_iload hx hb dX6_knit_50 (lv_at hl 4 rfl) ?_
      refine lv_if_eq (tgt := 80) hx hb dX6_knit_52 (by decide) (fun c52 => ?_) (fun c52 => ?_)
      · replace h := it_t c52 h
        exact w_X6_knit_80 C hP hD hS (lv_sub hl [0, 1, 2, 3, 4] rfl) h
      · replace h := it_f c52 h
        refine lv_aload_n hx hb dX6_knit_55 rfl (lv_at hl 0 rfl) ?_
        refine gf_6_20 C hP (iL (by decide)) (by decide) wd_902 dX6_knit_56 ?_
        refine lv_bipush (v := 40) hx hb dX6_knit_59 (by decide) ?_
        refine lv_iload_n hx hb dX6_knit_61 rfl (lv_at hl 1 rfl) ?_
        refine lv_imul hx hb dX6_knit_62 ?_
        refine lv_iload hx hb dX6_knit_63 (lv_at hl 5 rfl) ?_
        refine lv_iadd hx hb dX6_knit_65 ?_
        obtain ⟨gi1, h⟩ := gd_of h
        refine ia_ld C hP (iL (by decide)) (by decide) gi1 dX6_knit_66 ?_
        refine lv_iconst (v := 0) hx hb dX6_knit_67 (by decide) ?_
        refine lv_iconst (v := 4) hx hb dX6_knit_68 (by decide) ?_
        obtain ⟨r69, g69, h⟩ := bd_of h
        refine call_iS (As := [.int (AI M 113 (((40 : Int32) * x1) + x5).toNatClampNeg), .int (0 : Int32), .int (4 : Int32)]) (rest := []) C hP hD hS (c_X6_in g69) (gS wd_843 wd_844 wd_75 wd_845) es_X6_in ⟨rfl, rfl⟩ ⟨Nat.le_of_ble_eq_true rfl, Nat.le_of_ble_eq_true rfl⟩ hl.1 rfl (Nat.le_of_ble_eq_true rfl) dX6_knit_69 (fun H locs hP hD hS => ?_)
        refine lv_istore (lv' := [(4, .int (b2i r69)), (0, .ref (ad 100)), (1, .int x1), (2, .int x2), (3, .int x3), (5, .int x5)]) hx hb dX6_knit_72 hl (by decide) rfl (fun ls hl => ?_)
        refine lv_iinc (v := (x5 + (1 : Int32))) (lv' := [(5, .int (x5 + (1 : Int32))), (4, .int (b2i r69)), (0, .ref (ad 100)), (1, .int x1), (2, .int x2), (3, .int x3)]) hx hb dX6_knit_74 hl (k := 5) rfl rfl (by decide) rfl (fun ls hl => ?_)
        refine lv_goto (tgt := 44) hx hb dX6_knit_77 (by decide) ?_
        exact ih _ _ _ _ _ _ hP hD hS _ (lv_sub hl [2, 3, 4, 5, 1, 0] rfl) h
def b_X6_knit_0 (N : Nat) (x1 : Int32) (x2 : Int32) (M : Mem) : Option (Int32 × Mem) := (f_X6_in x1 (0 : Int32) (3 : Int32) M).bind fun r3 => (if r3 = true then gd (inb x1 (len 111)) ((if (AI M 111 x1.toNatClampNeg) = (-1 : Int32) then some ((-11 : Int32), M) else gd (inb x1 (len 112)) ((f_X6_in (AI M 112 x1.toNatClampNeg) (1 : Int32) (16 : Int32) M).bind fun r36 => b_X6_knit_44 N x1 x2 N (AI M 112 x1.toNatClampNeg) (b2i r36) (0 : Int32) M))) else some ((-2 : Int32), M))
set_option maxHeartbeats 4000000 in
set_option maxRecDepth 100000 in
theorem w_X6_knit_0 (C : CX p s m args meth c cX6_knit 6 (some .int) RX6 D cy ad zz 100 21 A) {N : Nat} {M : Mem} {x1 : Int32} {x2 : Int32} {rr : Int32} {M' : Mem} {H : Heap} {locs : List Loc} (hP : va_P D vwCl (pool cy ad 100 21 M) H) (hD : va_D A (pool cy ad 100 21 M)) (hS : va_S A s.heap H locs) {ls : Array Slot} (hl : lv_has ls 6 [(0, .ref (ad 100)), (1, .int x1), (2, .int x2)]) (h : b_X6_knit_0 N x1 x2 M = some (rr, M')) : W p l e ({ frames := 2, cells := 0, slots := 0, locals := 43 } : Room) s m args below meth c H locs 0 0 (MQ below (va_Qi (fun (x : Int32) (_ : Unit) => x = rr) (fun _ t => PA D cy ad 100 21 A M' t) A) args s 0 0 A) (F0 m 0 ls []) := by
  obtain ⟨hx, hb, hml, hown, hts, hr, hlk, hK, hN, hA, hX⟩ := id C
  unfold b_X6_knit_0 at h
  refine lv_iload_n hx hb dX6_knit_0 rfl (lv_at hl 1 rfl) ?_
  refine lv_iconst (v := 0) hx hb dX6_knit_1 (by decide) ?_
  refine lv_iconst (v := 3) hx hb dX6_knit_2 (by decide) ?_
  obtain ⟨r3, g3, h⟩ := bd_of h
  refine call_iS (As := [.int x1, .int (0 : Int32), .int (3 : Int32)]) (rest := []) C hP hD hS (c_X6_in g3) (gS wd_843 wd_844 wd_75 wd_845) es_X6_in ⟨rfl, rfl⟩ ⟨Nat.le_of_ble_eq_true rfl, Nat.le_of_ble_eq_true rfl⟩ hl.1 rfl (Nat.le_of_ble_eq_true rfl) dX6_knit_3 (fun H locs hP hD hS => ?_)
  refine lv_if_ne (tgt := 12) hx hb dX6_knit_6 (by decide) (fun c6 => ?_) (fun c6 => ?_)
  · replace h := it_t (b2i_1 c6) h
    refine lv_aload_n hx hb dX6_knit_12 rfl (lv_at hl 0 rfl) ?_
    refine gf_6_18 C hP (iL (by decide)) (by decide) wd_900 dX6_knit_13 ?_
    refine lv_iload_n hx hb dX6_knit_16 rfl (lv_at hl 1 rfl) ?_
    obtain ⟨gi1, h⟩ := gd_of h
    refine ia_ld C hP (iL (by decide)) (by decide) gi1 dX6_knit_17 ?_
    refine lv_iconst (v := -1) hx hb dX6_knit_18 (by decide) ?_
    refine lv_icmp_ne (tgt := 25) hx hb dX6_knit_19 (by decide) (fun c19 => ?_) (fun c19 => ?_)
    · replace h := it_f c19 h
      refine lv_aload_n hx hb dX6_knit_25 rfl (lv_at hl 0 rfl) ?_
      refine gf_6_19 C hP (iL (by decide)) (by decide) wd_901 dX6_knit_26 ?_
      refine lv_iload_n hx hb dX6_knit_29 rfl (lv_at hl 1 rfl) ?_
      obtain ⟨gi2, h⟩ := gd_of h
      refine ia_ld C hP (iL (by decide)) (by decide) gi2 dX6_knit_30 ?_
      refine lv_istore_n (lv' := [(3, .int (AI M 112 x1.toNatClampNeg)), (0, .ref (ad 100)), (1, .int x1), (2, .int x2)]) hx hb dX6_knit_31 rfl hl (by decide) rfl (fun ls hl => ?_)
      refine lv_iload_n hx hb dX6_knit_32 rfl (lv_at hl 0 rfl) ?_
      refine lv_iconst (v := 1) hx hb dX6_knit_33 (by decide) ?_
      refine lv_bipush (v := 16) hx hb dX6_knit_34 (by decide) ?_
      obtain ⟨r36, g36, h⟩ := bd_of h
      refine call_iS (As := [.int (AI M 112 x1.toNatClampNeg), .int (1 : Int32), .int (16 : Int32)]) (rest := []) C hP hD hS (c_X6_in g36) (gS wd_843 wd_844 wd_75 wd_845) es_X6_in ⟨rfl, rfl⟩ ⟨Nat.le_of_ble_eq_true rfl, Nat.le_of_ble_eq_true rfl⟩ hl.1 rfl (Nat.le_of_ble_eq_true rfl) dX6_knit_36 (fun H locs hP hD hS => ?_)
      refine lv_istore (lv' := [(4, .int (b2i r36)), (3, .int (AI M 112 x1.toNatClampNeg)), (0, .ref (ad 100)), (1, .int x1), (2, .int x2)]) hx hb dX6_knit_39 hl (by decide) rfl (fun ls hl => ?_)
      refine lv_iconst (v := 0) hx hb dX6_knit_41 (by decide) ?_
      refine lv_istore (lv' := [(5, .int (0 : Int32)), (4, .int (b2i r36)), (3, .int (AI M 112 x1.toNatClampNeg)), (0, .ref (ad 100)), (1, .int x1), (2, .int x2)]) hx hb dX6_knit_42 hl (by decide) rfl (fun ls hl => ?_)
      exact w_X6_knit_44 C N _ _ _ _ _ _ hP hD hS _ (lv_sub hl [3, 4, 5, 2, 1, 0] rfl) h
    · replace h := it_t c19 h
      refine lv_bipush (v := -11) hx hb dX6_knit_22 (by decide) ?_
      exact rt_i (r := (-11 : Int32)) C hP hD hS dX6_knit_24 (rw_end h)
  · replace h := it_f (b2i_n c6) h
    refine lv_bipush (v := -2) hx hb dX6_knit_9 (by decide) ?_
    exact rt_i (r := (-2 : Int32)) C hP hD hS dX6_knit_11 (rw_end h)
def f_X6_knit (N : Nat) (x1 : Int32) (x2 : Int32) (M : Mem) : Option (Int32 × Mem) := b_X6_knit_0 N x1 x2 M
theorem c_X6_knit {l : Launch} {D : va_G} {cy : Nat → ClassId} {ad : Nat → Nat} {zz : (Nat → Nat) × (Nat → Nat)} {N : Nat} {x1 : Int32} {x2 : Int32} {M : Mem} {rr : Int32} {M' : Mem} (h : f_X6_knit N x1 x2 M = some (rr, M')) : CTi l D cy ad zz 100 21 yX6_knit (.code yX6_knit cX6_knit 6 (some .int) :: tb) ({ frames := 2, cells := 0, slots := 0, locals := 43 } : Room) [.ref (ad 100), .int x1, .int x2] M rr M' := by
  intro sz
  refine CX.of (by decide +kernel) (fun p e s m args below meth c H ls C hP hD hS hl => ?_) (Nat.le_of_ble_eq_true rfl)
  exact w_X6_knit_0 C hP hD hS hl h
theorem ev_X6_knit : yX6_knit.cls = RX6 ∧ yX6_knit.cls ≠ "java/lang/invoke/MethodHandle" ∧ yX6_knit.cls ≠ "java/lang/invoke/VarHandle" ∧ (parseMethodDescriptor yX6_knit.desc).map (fun d => d.parameters.length) = some 2 := by decide +kernel
end
