section
variable {p : Program} {l : Launch} {e : Env} {s : State} {m : MethodId} {args : Array Value} {below : List Frame} {meth : Method} {c : Code} {D : va_G} {cy : Nat → ClassId} {ad : Nat → Nat} {zz : (Nat → Nat) × (Nat → Nat)} {A : Nat → Prop}
def b_X5_run_73 (N : Nat) (x1 : Int32) (x2 : Int32) (x4 : Int32) (M : Mem) : Option (Int32 × Mem) := (f_X4_becomeAs N 2 1 M).bind fun M81 => bd2 (f_X5_passNights N x1 M81) fun r86 M86 => (if x2 = 0 then some (r86, M86) else (if x2 = (1 : Int32) then (f_X5_theLaw M86).bind fun r108 => gd (isK r108 3) (bd2 (f_X4_mindsOfAll N 2 r108 M86) fun r111 M111 => some (r111, M111)) else (if x2 = (2 : Int32) then (f_X4_twos N 2 M86).bind fun r124 => some (r124, M86) else (f_X4_numbered 2 x4 M86).bind fun r134 => (oc r134 (some ((-100000 : Int32), M86)) (fun (j141 : Nat) => (if (20 : Int32) ≤ x2 then gd (isK j141 2) (some ((FI M86 j141 5), M86)) else gd (isK j141 2) (some ((FI M86 j141 2), M86))))))))
set_option maxHeartbeats 4000000 in
set_option maxRecDepth 100000 in
theorem w_X5_run_73 (C : CX p s m args meth c cX5_run 7 (some .int) RX5 D cy ad zz 0 82 A) {N : Nat} {M : Mem} {x1 : Int32} {x2 : Int32} {rr : Int32} {M' : Mem} {x4 : Int32} {H : Heap} {locs : List Loc} (hP : va_P D vwCl (pool cy ad 0 82 M) H) (hD : va_D A (pool cy ad 0 82 M)) (hS : va_S A s.heap H locs) {ls : Array Slot} (hl : lv_has ls 7 [(0, .ref (ad 0)), (1, .int x1), (2, .int x2), (4, .int x4)]) (h : b_X5_run_73 N x1 x2 x4 M = some (rr, M')) : W p l e ({ frames := 7, cells := 0, slots := 0, locals := 166 } : Room) s m args below meth c H locs 0 0 (MQ below (va_Qi (fun (x : Int32) (_ : Unit) => x = rr) (fun _ t => PA D cy ad 0 82 A M' t) A) args s 0 0 A) (F0 m 73 ls []) := by
  obtain ⟨hx, hb, hml, hown, hts, hr, hlk, hK, hN, hA, hX⟩ := id C
  unfold b_X5_run_73 at h
  refine lv_aload_n hx hb dX5_run_73 rfl (lv_at hl 0 rfl) ?_
  refine gf_5_1 C hP (iL (by decide)) (by decide) wd_375 dX5_run_74 ?_
  refine lv_aload_n hx hb dX5_run_77 rfl (lv_at hl 0 rfl) ?_
  refine gf_5_0 C hP (iL (by decide)) (by decide) wd_374 dX5_run_78 ?_
  obtain ⟨M81, g81, h⟩ := bd_of h
  refine call_vV (As := [.ref (ad 1)]) (rest := []) C hP hD hS (c_X4_becomeAs (by decide) (by decide) g81) (iL (by decide)) ⟨4, _, _, ent_4 (by decide), rfl, rfl⟩ (gV wd_615 wd_616 wd_617 wd_65 wd_618) ev_X4_becomeAs ⟨rfl, rfl⟩ ⟨Nat.le_of_ble_eq_true rfl, Nat.le_of_ble_eq_true rfl⟩ hl.1 rfl (Nat.le_of_ble_eq_true rfl) dX5_run_81 (fun H locs hP hD hS => ?_)
  refine lv_aload_n hx hb dX5_run_84 rfl (lv_at hl 0 rfl) ?_
  refine lv_iload_n hx hb dX5_run_85 rfl (lv_at hl 1 rfl) ?_
  obtain ⟨r86, M86, g86, h⟩ := bd2_of h
  refine call_iV (As := [.int x1]) (rest := []) C hP hD hS (c_X5_passNights g86) (iL (by decide)) ⟨5, _, _, ent_5 (by decide), rfl, rfl⟩ (gV wd_626 wd_628 wd_19 wd_64 wd_629) ev_X5_passNights ⟨rfl, rfl⟩ ⟨Nat.le_of_ble_eq_true rfl, Nat.le_of_ble_eq_true rfl⟩ hl.1 rfl (Nat.le_of_ble_eq_true rfl) dX5_run_86 (fun H locs hP hD hS => ?_)
  refine lv_istore (lv' := [(5, .int r86), (0, .ref (ad 0)), (1, .int x1), (2, .int x2), (4, .int x4)]) hx hb dX5_run_89 hl (by decide) rfl (fun ls hl => ?_)
  refine lv_iload_n hx hb dX5_run_91 rfl (lv_at hl 3 rfl) ?_
  refine lv_if_ne (tgt := 98) hx hb dX5_run_92 (by decide) (fun c92 => ?_) (fun c92 => ?_)
  · replace h := it_f c92 h
    refine lv_iload_n hx hb dX5_run_98 rfl (lv_at hl 3 rfl) ?_
    refine lv_iconst (v := 1) hx hb dX5_run_99 (by decide) ?_
    refine lv_icmp_ne (tgt := 115) hx hb dX5_run_100 (by decide) (fun c100 => ?_) (fun c100 => ?_)
    · replace h := it_f c100 h
      refine lv_iload_n hx hb dX5_run_115 rfl (lv_at hl 3 rfl) ?_
      refine lv_iconst (v := 2) hx hb dX5_run_116 (by decide) ?_
      refine lv_icmp_ne (tgt := 128) hx hb dX5_run_117 (by decide) (fun c117 => ?_) (fun c117 => ?_)
      · replace h := it_f c117 h
        refine lv_aload_n hx hb dX5_run_128 rfl (lv_at hl 1 rfl) ?_
        refine gf_5_1 C hP (iL (by decide)) (by decide) wd_375 dX5_run_129 ?_
        refine lv_iload hx hb dX5_run_132 (lv_at hl 4 rfl) ?_
        obtain ⟨r134, g134, h⟩ := bd_of h
        refine call_qV (As := [.int x4]) (rest := []) C hP hD hS (c_X4_numbered (by decide) g134) (iL (by decide)) ⟨4, _, _, ent_4 (by decide), rfl, rfl⟩ (gV wd_455 wd_456 wd_457 wd_65 wd_458) ev_X4_numbered ⟨rfl, rfl⟩ ⟨Nat.le_of_ble_eq_true rfl, Nat.le_of_ble_eq_true rfl⟩ hl.1 rfl (Nat.le_of_ble_eq_true rfl) dX5_run_134 (fun H locs hP hD hS => ?_)
        refine nq_astore (lv' := [(6, va_re ad r134), (5, .int r86), (0, .ref (ad 0)), (1, .int x1), (2, .int x2), (4, .int x4)]) hx hb dX5_run_137 hl (by decide) rfl (fun ls hl => ?_)
        refine nq_aload hx hb dX5_run_139 (lv_at hl 0 rfl) ?_
        cases r134 with
        | none =>
          replace h := oc_n h
          have hl : lv_has ls 7 [(6, .null), (5, .int r86), (0, .ref (ad 0)), (1, .int x1), (2, .int x2), (4, .int x4)] := hl
          refine W.eq (g2 := F0 m 141 ls [.null]) rfl ?_
          refine lv_ifnonnullN hx hb dX5_run_141 ?_
          refine lv_ldc hx hb hown (hts _ wd_614) dX5_run_144 ?_
          exact rt_i (r := (-100000 : Int32)) C hP hD hS dX5_run_146 (rw_end h)
        | some j141 =>
          replace h := oc_s h
          have hl : lv_has ls 7 [(6, .ref (ad j141)), (5, .int r86), (0, .ref (ad 0)), (1, .int x1), (2, .int x2), (4, .int x4)] := hl
          refine W.eq (g2 := F0 m 141 ls [.ref (ad j141)]) rfl ?_
          refine lv_ifnonnull (tgt := 147) hx hb dX5_run_141 (by decide) ?_
          refine lv_iload_n hx hb dX5_run_147 rfl (lv_at hl 4 rfl) ?_
          refine lv_bipush (v := 20) hx hb dX5_run_148 (by decide) ?_
          refine lv_icmp_ge (tgt := 161) hx hb dX5_run_150 (by decide) (fun c150 => ?_) (fun c150 => ?_)
          · replace h := it_t c150 h
            refine lv_aload hx hb dX5_run_161 (lv_at hl 0 rfl) ?_
            obtain ⟨gk1, h⟩ := gd_of h
            refine gf_2_5 C hP (p_2 (isK_of gk1)) (isK_of gk1) wd_112 dX5_run_163 ?_
            exact rt_i (r := (FI M86 j141 5)) C hP hD hS dX5_run_166 (rw_end h)
          · replace h := it_f c150 h
            refine lv_aload hx hb dX5_run_153 (lv_at hl 0 rfl) ?_
            obtain ⟨gk2, h⟩ := gd_of h
            refine gf_2_2 C hP (p_2 (isK_of gk2)) (isK_of gk2) wd_106 dX5_run_155 ?_
            refine lv_goto (tgt := 166) hx hb dX5_run_158 (by decide) ?_
            exact rt_i (r := (FI M86 j141 2)) C hP hD hS dX5_run_166 (rw_end h)
      · replace h := it_t c117 h
        refine lv_aload_n hx hb dX5_run_120 rfl (lv_at hl 1 rfl) ?_
        refine gf_5_1 C hP (iL (by decide)) (by decide) wd_375 dX5_run_121 ?_
        obtain ⟨r124, g124, h⟩ := bd_of h
        refine call_iV (As := []) (rest := []) C hP hD hS (c_X4_twos (by decide) g124) (iL (by decide)) ⟨4, _, _, ent_4 (by decide), rfl, rfl⟩ (gV wd_635 wd_636 wd_637 wd_65 wd_638) ev_X4_twos ⟨rfl, rfl⟩ ⟨Nat.le_of_ble_eq_true rfl, Nat.le_of_ble_eq_true rfl⟩ hl.1 rfl (Nat.le_of_ble_eq_true rfl) dX5_run_124 (fun H locs hP hD hS => ?_)
        exact rt_i (r := r124) C hP hD hS dX5_run_127 (rw_end h)
    · replace h := it_t c100 h
      refine lv_aload_n hx hb dX5_run_103 rfl (lv_at hl 1 rfl) ?_
      refine gf_5_1 C hP (iL (by decide)) (by decide) wd_375 dX5_run_104 ?_
      refine lv_aload_n hx hb dX5_run_107 rfl (lv_at hl 1 rfl) ?_
      obtain ⟨r108, g108, h⟩ := bd_of h
      refine call_rV (As := []) (rest := [.ref (ad 2)]) C hP hD hS (c_X5_theLaw g108) (iL (by decide)) ⟨5, _, _, ent_5 (by decide), rfl, rfl⟩ (gV wd_459 wd_461 wd_13 wd_64 wd_462) ev_X5_theLaw ⟨rfl, rfl⟩ ⟨Nat.le_of_ble_eq_true rfl, Nat.le_of_ble_eq_true rfl⟩ hl.1 rfl (Nat.le_of_ble_eq_true rfl) dX5_run_108 (fun H locs hP hD hS => ?_)
      obtain ⟨gk3, h⟩ := gd_of h
      obtain ⟨r111, M111, g111, h⟩ := bd2_of h
      refine call_iV (As := [.ref (ad r108)]) (rest := []) C hP hD hS (c_X4_mindsOfAll (by decide) (isK_of gk3) g111) (iL (by decide)) ⟨4, _, _, ent_4 (by decide), rfl, rfl⟩ (gV wd_630 wd_631 wd_632 wd_65 wd_633) ev_X4_mindsOfAll ⟨rfl, rfl⟩ ⟨Nat.le_of_ble_eq_true rfl, Nat.le_of_ble_eq_true rfl⟩ hl.1 rfl (Nat.le_of_ble_eq_true rfl) dX5_run_111 (fun H locs hP hD hS => ?_)
      exact rt_i (r := r111) C hP hD hS dX5_run_114 (rw_end h)
  · replace h := it_t c92 h
    refine lv_iload hx hb dX5_run_95 (lv_at hl 0 rfl) ?_
    exact rt_i (r := r86) C hP hD hS dX5_run_97 (rw_end h)
def b_X5_run_54 (N : Nat) (x1 : Int32) (x2 : Int32) (x3 : Int32) (x4 : Int32) (M : Mem) : Option (Int32 × Mem) := (if x3 = 0 then b_X5_run_73 N x1 x2 x4 M else (if x4 < (FI M 1 3) then b_X5_run_73 N x1 x2 x4 M else some ((-100000 : Int32), M)))
set_option maxHeartbeats 4000000 in
set_option maxRecDepth 100000 in
theorem w_X5_run_54 (C : CX p s m args meth c cX5_run 7 (some .int) RX5 D cy ad zz 0 82 A) {N : Nat} {M : Mem} {x1 : Int32} {x2 : Int32} {rr : Int32} {M' : Mem} {x3 : Int32} {x4 : Int32} {H : Heap} {locs : List Loc} (hP : va_P D vwCl (pool cy ad 0 82 M) H) (hD : va_D A (pool cy ad 0 82 M)) (hS : va_S A s.heap H locs) {ls : Array Slot} (hl : lv_has ls 7 [(0, .ref (ad 0)), (1, .int x1), (2, .int x2), (3, .int x3), (4, .int x4)]) (h : b_X5_run_54 N x1 x2 x3 x4 M = some (rr, M')) : W p l e ({ frames := 7, cells := 0, slots := 0, locals := 166 } : Room) s m args below meth c H locs 0 0 (MQ below (va_Qi (fun (x : Int32) (_ : Unit) => x = rr) (fun _ t => PA D cy ad 0 82 A M' t) A) args s 0 0 A) (F0 m 54 ls []) := by
  obtain ⟨hx, hb, hml, hown, hts, hr, hlk, hK, hN, hA, hX⟩ := id C
  unfold b_X5_run_54 at h
  refine lv_iload_n hx hb dX5_run_54 rfl (lv_at hl 3 rfl) ?_
  refine lv_if_eq (tgt := 73) hx hb dX5_run_55 (by decide) (fun c55 => ?_) (fun c55 => ?_)
  · replace h := it_t c55 h
    exact w_X5_run_73 C hP hD hS (lv_sub hl [0, 1, 2, 4] rfl) h
  · replace h := it_f c55 h
    refine lv_iload hx hb dX5_run_58 (lv_at hl 4 rfl) ?_
    refine lv_aload_n hx hb dX5_run_60 rfl (lv_at hl 0 rfl) ?_
    refine gf_5_0 C hP (iL (by decide)) (by decide) wd_374 dX5_run_61 ?_
    refine gf_4_3 C hP (iL (by decide)) (by decide) wd_149 dX5_run_64 ?_
    refine lv_icmp_lt (tgt := 73) hx hb dX5_run_67 (by decide) (fun c67 => ?_) (fun c67 => ?_)
    · replace h := it_t c67 h
      exact w_X5_run_73 C hP hD hS (lv_sub hl [0, 1, 2, 4] rfl) h
    · replace h := it_f c67 h
      refine lv_ldc hx hb hown (hts _ wd_614) dX5_run_70 ?_
      exact rt_i (r := (-100000 : Int32)) C hP hD hS dX5_run_72 (rw_end h)
def b_X5_run_29 (N : Nat) (x1 : Int32) (x2 : Int32) (x3 : Int32) (t0 : Int32) (M : Mem) : Option (Int32 × Mem) := (if x1 < 0 then some ((-100000 : Int32), M) else (if (40 : Int32) < x1 then some ((-100000 : Int32), M) else (if x2 < 0 then some ((-100000 : Int32), M) else (if x3 = 0 then (if (2 : Int32) < x2 then some ((-100000 : Int32), M) else b_X5_run_54 N x1 x2 x3 t0 M) else b_X5_run_54 N x1 x2 x3 t0 M))))
set_option maxHeartbeats 4000000 in
set_option maxRecDepth 100000 in
theorem w_X5_run_29 (C : CX p s m args meth c cX5_run 7 (some .int) RX5 D cy ad zz 0 82 A) {N : Nat} {M : Mem} {x1 : Int32} {x2 : Int32} {rr : Int32} {M' : Mem} {x3 : Int32} {t0 : Int32} {H : Heap} {locs : List Loc} (hP : va_P D vwCl (pool cy ad 0 82 M) H) (hD : va_D A (pool cy ad 0 82 M)) (hS : va_S A s.heap H locs) {ls : Array Slot} (hl : lv_has ls 7 [(0, .ref (ad 0)), (1, .int x1), (2, .int x2), (3, .int x3)]) (h : b_X5_run_29 N x1 x2 x3 t0 M = some (rr, M')) : W p l e ({ frames := 7, cells := 0, slots := 0, locals := 166 } : Room) s m args below meth c H locs 0 0 (MQ below (va_Qi (fun (x : Int32) (_ : Unit) => x = rr) (fun _ t => PA D cy ad 0 82 A M' t) A) args s 0 0 A) (F0 m 29 ls [.int t0]) := by
  obtain ⟨hx, hb, hml, hown, hts, hr, hlk, hK, hN, hA, hX⟩ := id C
  unfold b_X5_run_29 at h
  refine lv_istore (lv' := [(4, .int t0), (0, .ref (ad 0)), (1, .int x1), (2, .int x2), (3, .int x3)]) hx hb dX5_run_29 hl (by decide) rfl (fun ls hl => ?_)
  refine lv_iload_n hx hb dX5_run_31 rfl (lv_at hl 2 rfl) ?_
  refine lv_if_lt (tgt := 70) hx hb dX5_run_32 (by decide) (fun c32 => ?_) (fun c32 => ?_)
  · replace h := it_t c32 h
    refine lv_ldc hx hb hown (hts _ wd_614) dX5_run_70 ?_
    exact rt_i (r := (-100000 : Int32)) C hP hD hS dX5_run_72 (rw_end h)
  · replace h := it_f c32 h
    refine lv_iload_n hx hb dX5_run_35 rfl (lv_at hl 2 rfl) ?_
    refine lv_bipush (v := 40) hx hb dX5_run_36 (by decide) ?_
    refine lv_icmp_gt (tgt := 70) hx hb dX5_run_38 (by decide) (fun c38 => ?_) (fun c38 => ?_)
    · replace h := it_t c38 h
      refine lv_ldc hx hb hown (hts _ wd_614) dX5_run_70 ?_
      exact rt_i (r := (-100000 : Int32)) C hP hD hS dX5_run_72 (rw_end h)
    · replace h := it_f c38 h
      refine lv_iload_n hx hb dX5_run_41 rfl (lv_at hl 3 rfl) ?_
      refine lv_if_lt (tgt := 70) hx hb dX5_run_42 (by decide) (fun c42 => ?_) (fun c42 => ?_)
      · replace h := it_t c42 h
        refine lv_ldc hx hb hown (hts _ wd_614) dX5_run_70 ?_
        exact rt_i (r := (-100000 : Int32)) C hP hD hS dX5_run_72 (rw_end h)
      · replace h := it_f c42 h
        refine lv_iload_n hx hb dX5_run_45 rfl (lv_at hl 4 rfl) ?_
        refine lv_if_ne (tgt := 54) hx hb dX5_run_46 (by decide) (fun c46 => ?_) (fun c46 => ?_)
        · replace h := it_f c46 h
          exact w_X5_run_54 C hP hD hS (lv_sub hl [1, 2, 3, 4, 0] rfl) h
        · replace h := it_t c46 h
          refine lv_iload_n hx hb dX5_run_49 rfl (lv_at hl 3 rfl) ?_
          refine lv_iconst (v := 2) hx hb dX5_run_50 (by decide) ?_
          refine lv_icmp_gt (tgt := 70) hx hb dX5_run_51 (by decide) (fun c51 => ?_) (fun c51 => ?_)
          · replace h := it_t c51 h
            refine lv_ldc hx hb hown (hts _ wd_614) dX5_run_70 ?_
            exact rt_i (r := (-100000 : Int32)) C hP hD hS dX5_run_72 (rw_end h)
          · replace h := it_f c51 h
            exact w_X5_run_54 C hP hD hS (lv_sub hl [1, 2, 3, 4, 0] rfl) h
def b_X5_run_11 (N : Nat) (x1 : Int32) (x2 : Int32) (t0 : Int32) (M : Mem) : Option (Int32 × Mem) := (if (20 : Int32) ≤ x2 then b_X5_run_29 N x1 x2 t0 (x2 - (20 : Int32)) M else b_X5_run_29 N x1 x2 t0 (x2 - (10 : Int32)) M)
set_option maxHeartbeats 4000000 in
set_option maxRecDepth 100000 in
theorem w_X5_run_11 (C : CX p s m args meth c cX5_run 7 (some .int) RX5 D cy ad zz 0 82 A) {N : Nat} {M : Mem} {x1 : Int32} {x2 : Int32} {rr : Int32} {M' : Mem} {t0 : Int32} {H : Heap} {locs : List Loc} (hP : va_P D vwCl (pool cy ad 0 82 M) H) (hD : va_D A (pool cy ad 0 82 M)) (hS : va_S A s.heap H locs) {ls : Array Slot} (hl : lv_has ls 7 [(0, .ref (ad 0)), (1, .int x1), (2, .int x2)]) (h : b_X5_run_11 N x1 x2 t0 M = some (rr, M')) : W p l e ({ frames := 7, cells := 0, slots := 0, locals := 166 } : Room) s m args below meth c H locs 0 0 (MQ below (va_Qi (fun (x : Int32) (_ : Unit) => x = rr) (fun _ t => PA D cy ad 0 82 A M' t) A) args s 0 0 A) (F0 m 11 ls [.int t0]) := by
  obtain ⟨hx, hb, hml, hown, hts, hr, hlk, hK, hN, hA, hX⟩ := id C
  unfold b_X5_run_11 at h
  refine lv_istore_n (lv' := [(3, .int t0), (0, .ref (ad 0)), (1, .int x1), (2, .int x2)]) hx hb dX5_run_11 rfl hl (by decide) rfl (fun ls hl => ?_)
  refine lv_iload_n hx hb dX5_run_12 rfl (lv_at hl 3 rfl) ?_
  refine lv_bipush (v := 20) hx hb dX5_run_13 (by decide) ?_
  refine lv_icmp_ge (tgt := 25) hx hb dX5_run_15 (by decide) (fun c15 => ?_) (fun c15 => ?_)
  · replace h := it_t c15 h
    refine lv_iload_n hx hb dX5_run_25 rfl (lv_at hl 3 rfl) ?_
    refine lv_bipush (v := 20) hx hb dX5_run_26 (by decide) ?_
    refine lv_isub hx hb dX5_run_28 ?_
    exact w_X5_run_29 C hP hD hS (lv_sub hl [1, 2, 3, 0] rfl) h
  · replace h := it_f c15 h
    refine lv_iload_n hx hb dX5_run_18 rfl (lv_at hl 3 rfl) ?_
    refine lv_bipush (v := 10) hx hb dX5_run_19 (by decide) ?_
    refine lv_isub hx hb dX5_run_21 ?_
    refine lv_goto (tgt := 29) hx hb dX5_run_22 (by decide) ?_
    exact w_X5_run_29 C hP hD hS (lv_sub hl [1, 2, 3, 0] rfl) h
def b_X5_run_0 (N : Nat) (x1 : Int32) (x2 : Int32) (M : Mem) : Option (Int32 × Mem) := (if x2 < (10 : Int32) then b_X5_run_11 N x1 x2 (0 : Int32) M else b_X5_run_11 N x1 x2 (1 : Int32) M)
set_option maxHeartbeats 4000000 in
set_option maxRecDepth 100000 in
theorem w_X5_run_0 (C : CX p s m args meth c cX5_run 7 (some .int) RX5 D cy ad zz 0 82 A) {N : Nat} {M : Mem} {x1 : Int32} {x2 : Int32} {rr : Int32} {M' : Mem} {H : Heap} {locs : List Loc} (hP : va_P D vwCl (pool cy ad 0 82 M) H) (hD : va_D A (pool cy ad 0 82 M)) (hS : va_S A s.heap H locs) {ls : Array Slot} (hl : lv_has ls 7 [(0, .ref (ad 0)), (1, .int x1), (2, .int x2)]) (h : b_X5_run_0 N x1 x2 M = some (rr, M')) : W p l e ({ frames := 7, cells := 0, slots := 0, locals := 166 } : Room) s m args below meth c H locs 0 0 (MQ below (va_Qi (fun (x : Int32) (_ : Unit) => x = rr) (fun _ t => PA D cy ad 0 82 A M' t) A) args s 0 0 A) (F0 m 0 ls []) := by
  obtain ⟨hx, hb, hml, hown, hts, hr, hlk, hK, hN, hA, hX⟩ := id C
  unfold b_X5_run_0 at h
  refine lv_iload_n hx hb dX5_run_0 rfl (lv_at hl 2 rfl) ?_
  refine lv_bipush (v := 10) hx hb dX5_run_1 (by decide) ?_
  refine lv_icmp_lt (tgt := 10) hx hb dX5_run_3 (by decide) (fun c3 => ?_) (fun c3 => ?_)
  · replace h := it_t c3 h
    refine lv_iconst (v := 0) hx hb dX5_run_10 (by decide) ?_
    exact w_X5_run_11 C hP hD hS hl h
  · replace h := it_f c3 h
    refine lv_iconst (v := 1) hx hb dX5_run_6 (by decide) ?_
    refine lv_goto (tgt := 11) hx hb dX5_run_7 (by decide) ?_
    exact w_X5_run_11 C hP hD hS hl h
def f_X5_run (N : Nat) (x1 : Int32) (x2 : Int32) (M : Mem) : Option (Int32 × Mem) := b_X5_run_0 N x1 x2 M
theorem c_X5_run {l : Launch} {D : va_G} {cy : Nat → ClassId} {ad : Nat → Nat} {zz : (Nat → Nat) × (Nat → Nat)} {N : Nat} {x1 : Int32} {x2 : Int32} {M : Mem} {rr : Int32} {M' : Mem} (h : f_X5_run N x1 x2 M = some (rr, M')) : CTi l D cy ad zz 0 82 yX5_run (.code yX5_run cX5_run 7 (some .int) :: tb) ({ frames := 7, cells := 0, slots := 0, locals := 166 } : Room) [.ref (ad 0), .int x1, .int x2] M rr M' := by
  intro sz
  refine CX.of (by decide +kernel) (fun p e s m args below meth c H ls C hP hD hS hl => ?_) (Nat.le_of_ble_eq_true rfl)
  exact w_X5_run_0 C hP hD hS hl h
theorem ev_X5_run : yX5_run.cls = RX5 ∧ yX5_run.cls ≠ "java/lang/invoke/MethodHandle" ∧ yX5_run.cls ≠ "java/lang/invoke/VarHandle" ∧ (parseMethodDescriptor yX5_run.desc).map (fun d => d.parameters.length) = some 2 := by decide +kernel
def b_X5_beginThought_0 (x1 : Int32) (M : Mem) : Option (Bool × Mem) := (f_X4_numbered 1 x1 M).bind fun r5 => (oc r5 (some (false, M)) (fun (j10 : Nat) => gd (isK j10 2) ((f_X2_becomeAs 4 j10 M).bind fun M20 => some (true, M20))))
set_option maxHeartbeats 4000000 in
set_option maxRecDepth 100000 in
theorem w_X5_beginThought_0 (C : CX p s m args meth c cX5_beginThought 3 (some .boolean) RX5 D cy ad zz 0 82 A) {M : Mem} {x1 : Int32} {rr : Bool} {M' : Mem} {H : Heap} {locs : List Loc} (hP : va_P D vwCl (pool cy ad 0 82 M) H) (hD : va_D A (pool cy ad 0 82 M)) (hS : va_S A s.heap H locs) {ls : Array Slot} (hl : lv_has ls 3 [(0, .ref (ad 0)), (1, .int x1)]) (h : b_X5_beginThought_0 x1 M = some (rr, M')) : W p l e ({ frames := 2, cells := 0, slots := 0, locals := 81 } : Room) s m args below meth c H locs 0 0 (MQ below (va_Qi (fun (x : Int32) (_ : Unit) => x = b2i rr) (fun _ t => PA D cy ad 0 82 A M' t) A) args s 0 0 A) (F0 m 0 ls []) := by
  obtain ⟨hx, hb, hml, hown, hts, hr, hlk, hK, hN, hA, hX⟩ := id C
  unfold b_X5_beginThought_0 at h
  refine lv_aload_n hx hb dX5_beginThought_0 rfl (lv_at hl 0 rfl) ?_
  refine gf_5_0 C hP (iL (by decide)) (by decide) wd_374 dX5_beginThought_1 ?_
  refine lv_iload_n hx hb dX5_beginThought_4 rfl (lv_at hl 1 rfl) ?_
  obtain ⟨r5, g5, h⟩ := bd_of h
  refine call_qV (As := [.int x1]) (rest := []) C hP hD hS (c_X4_numbered (by decide) g5) (iL (by decide)) ⟨4, _, _, ent_4 (by decide), rfl, rfl⟩ (gV wd_455 wd_456 wd_457 wd_65 wd_458) ev_X4_numbered ⟨rfl, rfl⟩ ⟨Nat.le_of_ble_eq_true rfl, Nat.le_of_ble_eq_true rfl⟩ hl.1 rfl (Nat.le_of_ble_eq_true rfl) dX5_beginThought_5 (fun H locs hP hD hS => ?_)
  refine nq_astore_n (lv' := [(2, va_re ad r5), (0, .ref (ad 0)), (1, .int x1)]) hx hb dX5_beginThought_8 rfl hl (by decide) rfl (fun ls hl => ?_)
  refine nq_aload_n hx hb dX5_beginThought_9 rfl (lv_at hl 0 rfl) ?_
  cases r5 with
  | none =>
    replace h := oc_n h
    have hl : lv_has ls 3 [(2, .null), (0, .ref (ad 0)), (1, .int x1)] := hl
    refine W.eq (g2 := F0 m 10 ls [.null]) rfl ?_
    refine lv_ifnonnullN hx hb dX5_beginThought_10 ?_
    refine lv_iconst (v := 0) hx hb dX5_beginThought_13 (by decide) ?_
    exact rt_z (r := false) C hP hD hS dX5_beginThought_14 (rw_end h)
  | some j10 =>
    replace h := oc_s h
    have hl : lv_has ls 3 [(2, .ref (ad j10)), (0, .ref (ad 0)), (1, .int x1)] := hl
    refine W.eq (g2 := F0 m 10 ls [.ref (ad j10)]) rfl ?_
    refine lv_ifnonnull (tgt := 15) hx hb dX5_beginThought_10 (by decide) ?_
    refine lv_aload_n hx hb dX5_beginThought_15 rfl (lv_at hl 1 rfl) ?_
    refine gf_5_3 C hP (iL (by decide)) (by decide) wd_377 dX5_beginThought_16 ?_
    refine lv_aload_n hx hb dX5_beginThought_19 rfl (lv_at hl 0 rfl) ?_
    obtain ⟨gk1, h⟩ := gd_of h
    obtain ⟨M20, g20, h⟩ := bd_of h
    refine call_vV (As := [.ref (ad j10)]) (rest := []) C hP hD hS (c_X2_becomeAs (by decide) (isK_of gk1) g20) (iL (by decide)) ⟨2, _, _, ent_2 (by decide), rfl, rfl⟩ (gV wd_652 wd_620 wd_621 wd_66 wd_622) ev_X2_becomeAs ⟨rfl, rfl⟩ ⟨Nat.le_of_ble_eq_true rfl, Nat.le_of_ble_eq_true rfl⟩ hl.1 rfl (Nat.le_of_ble_eq_true rfl) dX5_beginThought_20 (fun H locs hP hD hS => ?_)
    refine lv_iconst (v := 1) hx hb dX5_beginThought_23 (by decide) ?_
    exact rt_z (r := true) C hP hD hS dX5_beginThought_24 (rw_end h)
def f_X5_beginThought (x1 : Int32) (M : Mem) : Option (Bool × Mem) := b_X5_beginThought_0 x1 M
theorem c_X5_beginThought {l : Launch} {D : va_G} {cy : Nat → ClassId} {ad : Nat → Nat} {zz : (Nat → Nat) × (Nat → Nat)} {x1 : Int32} {M : Mem} {rr : Bool} {M' : Mem} (h : f_X5_beginThought x1 M = some (rr, M')) : CTi l D cy ad zz 0 82 yX5_beginThought (.code yX5_beginThought cX5_beginThought 3 (some .boolean) :: tb) ({ frames := 2, cells := 0, slots := 0, locals := 81 } : Room) [.ref (ad 0), .int x1] M (b2i rr) M' := by
  intro sz
  refine CX.of (by decide +kernel) (fun p e s m args below meth c H ls C hP hD hS hl => ?_) (Nat.le_of_ble_eq_true rfl)
  exact w_X5_beginThought_0 C hP hD hS hl h
theorem ev_X5_beginThought : yX5_beginThought.cls = RX5 ∧ yX5_beginThought.cls ≠ "java/lang/invoke/MethodHandle" ∧ yX5_beginThought.cls ≠ "java/lang/invoke/VarHandle" ∧ (parseMethodDescriptor yX5_beginThought.desc).map (fun d => d.parameters.length) = some 1 := by decide +kernel
def b_X5_walkNights_2 (N : Nat) (x1 : Int32) : Nat → Int32 → Mem → Option (Mem)
  | 0, _, _ => none
  | fu + 1, x2, M => (if x1 ≤ x2 then some M else (f_X5_theLaw M).bind fun r12 => gd (isK r12 3) (bd2 (f_X2_walk N 4 r12 ((FI M 1 1) + x2) (FJ M 1 0) M) fun r31 M31 => b_X5_walkNights_2 N x1 fu (x2 + (1 : Int32)) M31))
set_option maxHeartbeats 4000000 in
set_option maxRecDepth 100000 in
theorem w_X5_walkNights_2 (C : CX p s m args meth c cX5_walkNights 3 none RX5 D cy ad zz 0 82 A) {N : Nat} {x1 : Int32} {M' : Mem}  : ∀ (fu : Nat), ∀ (x2 : Int32), ∀ (M : Mem), ∀ (H : Heap) (locs : List Loc), va_P D vwCl (pool cy ad 0 82 M) H → va_D A (pool cy ad 0 82 M) → va_S A s.heap H locs → ∀ (ls : Array Slot), lv_has ls 3 [(0, .ref (ad 0)), (1, .int x1), (2, .int x2)] → b_X5_walkNights_2 N x1 fu x2 M = some M' → W p l e ({ frames := 5, cells := 0, slots := 0, locals := 120 } : Room) s m args below meth c H locs 0 0 (MQ below (va_Qv (fun (_ : Unit) => True) (fun _ t => PA D cy ad 0 82 A M' t) A) args s 0 0 A) (F0 m 2 ls []) := by
  obtain ⟨hx, hb, hml, hown, hts, hr, hlk, hK, hN, hA, hX⟩ := id C
  intro fu
  induction fu with
  | zero =>
    intro x2 M H locs hP hD hS ls hl h
    exact no_some (show none = some _ from h)
  | succ fu ih =>
    intro x2 M H locs hP hD hS ls hl h
    rw [b_X5_walkNights_2] at h
    refine lv_iload_n hx hb dX5_walkNights_2 rfl (lv_at hl 2 rfl) ?_
    refine lv_iload_n hx hb dX5_walkNights_3 rfl (lv_at hl 1 rfl) ?_
    refine lv_icmp_ge (tgt := 41) hx hb dX5_walkNights_4 (by decide) (fun c4 => ?_) (fun c4 => ?_)
    · replace h := it_t c4 h
      exact rt_v C hP hD hS dX5_walkNights_41 (Option.some.inj h)
    · replace h := it_f c4 h
      refine lv_aload_n hx hb dX5_walkNights_7 rfl (lv_at hl 0 rfl) ?_
      refine gf_5_3 C hP (iL (by decide)) (by decide) wd_377 dX5_walkNights_8 ?_
      refine lv_aload_n hx hb dX5_walkNights_11 rfl (lv_at hl 0 rfl) ?_
      obtain ⟨r12, g12, h⟩ := bd_of h
      refine call_rV (As := []) (rest := [.ref (ad 4)]) C hP hD hS (c_X5_theLaw g12) (iL (by decide)) ⟨5, _, _, ent_5 (by decide), rfl, rfl⟩ (gV wd_459 wd_461 wd_13 wd_64 wd_462) ev_X5_theLaw ⟨rfl, rfl⟩ ⟨Nat.le_of_ble_eq_true rfl, Nat.le_of_ble_eq_true rfl⟩ hl.1 rfl (Nat.le_of_ble_eq_true rfl) dX5_walkNights_12 (fun H locs hP hD hS => ?_)
      refine lv_aload_n hx hb dX5_walkNights_15 rfl (lv_at hl 0 rfl) ?_
      refine gf_5_0 C hP (iL (by decide)) (by decide) wd_374 dX5_walkNights_16 ?_
      refine gf_4_1 C hP (iL (by decide)) (by decide) wd_145 dX5_walkNights_19 ?_
      refine lv_iload_n hx hb dX5_walkNights_22 rfl (lv_at hl 2 rfl) ?_
      refine lv_iadd hx hb dX5_walkNights_23 ?_
      refine lv_aload_n hx hb dX5_walkNights_24 rfl (lv_at hl 0 rfl) ?_
      refine gf_5_0 C hP (iL (by decide)) (by decide) wd_374 dX5_walkNights_25 ?_
      refine gf_4_0 C hP (iL (by decide)) (by decide) wd_143 dX5_walkNights_28 ?_
      obtain ⟨gk1, h⟩ := gd_of h
      obtain ⟨r31, M31, g31, h⟩ := bd2_of h
      refine call_iV (As := [.ref (ad r12), .int ((FI M 1 1) + x2), .long (FJ M 1 0)]) (rest := []) C hP hD hS (c_X2_walk (by decide) (isK_of gk1) g31) (iL (by decide)) ⟨2, _, _, ent_2 (by decide), rfl, rfl⟩ (gV wd_657 wd_594 wd_595 wd_66 wd_596) ev_X2_walk ⟨rfl, rfl⟩ ⟨Nat.le_of_ble_eq_true rfl, Nat.le_of_ble_eq_true rfl⟩ hl.1 rfl (Nat.le_of_ble_eq_true rfl) dX5_walkNights_31 (fun H locs hP hD hS => ?_)
      refine lv_pop hx hb dX5_walkNights_34 rfl ?_
      refine lv_iinc (v := (x2 + (1 : Int32))) (lv' := [(2, .int (x2 + (1 : Int32))), (0, .ref (ad 0)), (1, .int x1)]) hx hb dX5_walkNights_35 hl (k := 2) rfl rfl (by decide) rfl (fun ls hl => ?_)
      refine lv_goto (tgt := 2) hx hb dX5_walkNights_38 (by decide) ?_
      exact ih _ _ _ _ hP hD hS _ (lv_sub hl [1, 2, 0] rfl) h
def b_X5_walkNights_0 (N : Nat) (x1 : Int32) (M : Mem) : Option (Mem) := b_X5_walkNights_2 N x1 N (0 : Int32) M
set_option maxHeartbeats 4000000 in
set_option maxRecDepth 100000 in
theorem w_X5_walkNights_0 (C : CX p s m args meth c cX5_walkNights 3 none RX5 D cy ad zz 0 82 A) {N : Nat} {M : Mem} {x1 : Int32} {M' : Mem} {H : Heap} {locs : List Loc} (hP : va_P D vwCl (pool cy ad 0 82 M) H) (hD : va_D A (pool cy ad 0 82 M)) (hS : va_S A s.heap H locs) {ls : Array Slot} (hl : lv_has ls 3 [(0, .ref (ad 0)), (1, .int x1)]) (h : b_X5_walkNights_0 N x1 M = some M') : W p l e ({ frames := 5, cells := 0, slots := 0, locals := 120 } : Room) s m args below meth c H locs 0 0 (MQ below (va_Qv (fun (_ : Unit) => True) (fun _ t => PA D cy ad 0 82 A M' t) A) args s 0 0 A) (F0 m 0 ls []) := by
  obtain ⟨hx, hb, hml, hown, hts, hr, hlk, hK, hN, hA, hX⟩ := id C
  unfold b_X5_walkNights_0 at h
  refine lv_iconst (v := 0) hx hb dX5_walkNights_0 (by decide) ?_
  refine lv_istore_n (lv' := [(2, .int (0 : Int32)), (0, .ref (ad 0)), (1, .int x1)]) hx hb dX5_walkNights_1 rfl hl (by decide) rfl (fun ls hl => ?_)
  exact w_X5_walkNights_2 C N _ _ _ _ hP hD hS _ (lv_sub hl [1, 2, 0] rfl) h
def f_X5_walkNights (N : Nat) (x1 : Int32) (M : Mem) : Option (Mem) := b_X5_walkNights_0 N x1 M
theorem c_X5_walkNights {l : Launch} {D : va_G} {cy : Nat → ClassId} {ad : Nat → Nat} {zz : (Nat → Nat) × (Nat → Nat)} {N : Nat} {x1 : Int32} {M : Mem} {M' : Mem} (h : f_X5_walkNights N x1 M = some M') : CTv l D cy ad zz 0 82 yX5_walkNights (.code yX5_walkNights cX5_walkNights 3 none :: tb) ({ frames := 5, cells := 0, slots := 0, locals := 120 } : Room) [.ref (ad 0), .int x1] M M' := by
  intro sz
  refine CX.of (by decide +kernel) (fun p e s m args below meth c H ls C hP hD hS hl => ?_) (Nat.le_of_ble_eq_true rfl)
  exact w_X5_walkNights_0 C hP hD hS hl h
theorem ev_X5_walkNights : yX5_walkNights.cls = RX5 ∧ yX5_walkNights.cls ≠ "java/lang/invoke/MethodHandle" ∧ yX5_walkNights.cls ≠ "java/lang/invoke/VarHandle" ∧ (parseMethodDescriptor yX5_walkNights.desc).map (fun d => d.parameters.length) = some 1 := by decide +kernel
def b_X5_trailOf_54 (N : Nat) (x1 : Int32) (x2 : Int32) (x3 : Int32) (k6 : Int64 → Int32 → Mem → Option (Int64 × Mem)) (y4 : Int64) (x6 : Int32) (M : Mem) : Option (Int64 × Mem) := k6 y4 (x6 + (1 : Int32)) M
set_option maxHeartbeats 4000000 in
set_option maxRecDepth 100000 in
theorem w_X5_trailOf_54 (C : CX p s m args meth c cX5_trailOf 7 (some .long) RX5 D cy ad zz 0 82 A) {N : Nat} {M : Mem} {x1 : Int32} {x2 : Int32} {x3 : Int32} {k6 : Int64 → Int32 → Mem → Option (Int64 × Mem)} {rr : Int64} {M' : Mem} (hk6 : ∀ (y4 : Int64), ∀ (x6 : Int32), ∀ (M : Mem), ∀ (H : Heap) (locs : List Loc), va_P D vwCl (pool cy ad 0 82 M) H → va_D A (pool cy ad 0 82 M) → va_S A s.heap H locs → ∀ (ls : Array Slot), lv_has ls 7 [(0, .ref (ad 0)), (2, .int x2), (3, .int x3), (4, .long y4), (6, .int x6)] → k6 y4 x6 M = some (rr, M') → W p l e ({ frames := 6, cells := 0, slots := 0, locals := 142 } : Room) s m args below meth c H locs 0 0 (MQ below (va_Ql (fun (x : Int64) (_ : Unit) => x = rr) (fun _ t => PA D cy ad 0 82 A M' t) A) args s 0 0 A) (F0 m 6 ls [])) {y4 : Int64} {x6 : Int32} {H : Heap} {locs : List Loc} (hP : va_P D vwCl (pool cy ad 0 82 M) H) (hD : va_D A (pool cy ad 0 82 M)) (hS : va_S A s.heap H locs) {ls : Array Slot} (hl : lv_has ls 7 [(0, .ref (ad 0)), (2, .int x2), (3, .int x3), (4, .long y4), (6, .int x6)]) (h : b_X5_trailOf_54 N x1 x2 x3 k6 y4 x6 M = some (rr, M')) : W p l e ({ frames := 6, cells := 0, slots := 0, locals := 142 } : Room) s m args below meth c H locs 0 0 (MQ below (va_Ql (fun (x : Int64) (_ : Unit) => x = rr) (fun _ t => PA D cy ad 0 82 A M' t) A) args s 0 0 A) (F0 m 54 ls []) := by
  obtain ⟨hx, hb, hml, hown, hts, hr, hlk, hK, hN, hA, hX⟩ := id C
  unfold b_X5_trailOf_54 at h
  refine lv_iinc (v := (x6 + (1 : Int32))) (lv' := [(6, .int (x6 + (1 : Int32))), (0, .ref (ad 0)), (2, .int x2), (3, .int x3), (4, .long y4)]) hx hb dX5_trailOf_54 hl (k := 4) rfl rfl (by decide) rfl (fun ls hl => ?_)
  refine lv_goto (tgt := 6) hx hb dX5_trailOf_57 (by decide) ?_
  exact hk6 _ _ _ _ _ hP hD hS _ (lv_sub hl [1, 2, 3, 4, 0] rfl) h
def b_X5_trailOf_37 (N : Nat) (x1 : Int32) (x2 : Int32) (x3 : Int32) (k6 : Int64 → Int32 → Mem → Option (Int64 × Mem)) (y4 : Int64) (x6 : Int32) (M : Mem) : Option (Int64 × Mem) := (f_X5_walkNights N x3 M).bind fun M39 => b_X5_trailOf_54 N x1 x2 x3 k6 (y4 ||| (FJ M39 4 8)) x6 M39
set_option maxHeartbeats 4000000 in
set_option maxRecDepth 100000 in
theorem w_X5_trailOf_37 (C : CX p s m args meth c cX5_trailOf 7 (some .long) RX5 D cy ad zz 0 82 A) {N : Nat} {M : Mem} {x1 : Int32} {x2 : Int32} {x3 : Int32} {k6 : Int64 → Int32 → Mem → Option (Int64 × Mem)} {rr : Int64} {M' : Mem} (hk6 : ∀ (y4 : Int64), ∀ (x6 : Int32), ∀ (M : Mem), ∀ (H : Heap) (locs : List Loc), va_P D vwCl (pool cy ad 0 82 M) H → va_D A (pool cy ad 0 82 M) → va_S A s.heap H locs → ∀ (ls : Array Slot), lv_has ls 7 [(0, .ref (ad 0)), (2, .int x2), (3, .int x3), (4, .long y4), (6, .int x6)] → k6 y4 x6 M = some (rr, M') → W p l e ({ frames := 6, cells := 0, slots := 0, locals := 142 } : Room) s m args below meth c H locs 0 0 (MQ below (va_Ql (fun (x : Int64) (_ : Unit) => x = rr) (fun _ t => PA D cy ad 0 82 A M' t) A) args s 0 0 A) (F0 m 6 ls [])) {y4 : Int64} {x6 : Int32} {H : Heap} {locs : List Loc} (hP : va_P D vwCl (pool cy ad 0 82 M) H) (hD : va_D A (pool cy ad 0 82 M)) (hS : va_S A s.heap H locs) {ls : Array Slot} (hl : lv_has ls 7 [(0, .ref (ad 0)), (2, .int x2), (3, .int x3), (4, .long y4), (6, .int x6)]) (h : b_X5_trailOf_37 N x1 x2 x3 k6 y4 x6 M = some (rr, M')) : W p l e ({ frames := 6, cells := 0, slots := 0, locals := 142 } : Room) s m args below meth c H locs 0 0 (MQ below (va_Ql (fun (x : Int64) (_ : Unit) => x = rr) (fun _ t => PA D cy ad 0 82 A M' t) A) args s 0 0 A) (F0 m 37 ls []) := by
  obtain ⟨hx, hb, hml, hown, hts, hr, hlk, hK, hN, hA, hX⟩ := id C
  unfold b_X5_trailOf_37 at h
  refine lv_aload_n hx hb dX5_trailOf_37 rfl (lv_at hl 0 rfl) ?_
  refine lv_iload_n hx hb dX5_trailOf_38 rfl (lv_at hl 2 rfl) ?_
  obtain ⟨M39, g39, h⟩ := bd_of h
  refine call_vV (As := [.int x3]) (rest := []) C hP hD hS (c_X5_walkNights g39) (iL (by decide)) ⟨5, _, _, ent_5 (by decide), rfl, rfl⟩ (gV wd_653 wd_655 wd_22 wd_64 wd_656) ev_X5_walkNights ⟨rfl, rfl⟩ ⟨Nat.le_of_ble_eq_true rfl, Nat.le_of_ble_eq_true rfl⟩ hl.1 rfl (Nat.le_of_ble_eq_true rfl) dX5_trailOf_39 (fun H locs hP hD hS => ?_)
  refine lv_lload hx hb dX5_trailOf_42 (lv_at hl 3 rfl) ?_
  refine lv_aload_n hx hb dX5_trailOf_44 rfl (lv_at hl 0 rfl) ?_
  refine gf_5_3 C hP (iL (by decide)) (by decide) wd_377 dX5_trailOf_45 ?_
  refine gf_2_8 C hP (iL (by decide)) (by decide) wd_118 dX5_trailOf_48 ?_
  refine lv_lor hx hb dX5_trailOf_51 ?_
  refine lv_lstore (lv' := [(4, .long (y4 ||| (FJ M39 4 8))), (0, .ref (ad 0)), (2, .int x2), (3, .int x3), (6, .int x6)]) hx hb dX5_trailOf_52 hl (by decide) rfl (fun ls hl => ?_)
  exact w_X5_trailOf_54 C hk6 hP hD hS (lv_sub hl [1, 2, 3, 0, 4] rfl) h
def b_X5_trailOf_6 (N : Nat) (x1 : Int32) (x2 : Int32) (x3 : Int32) : Nat → Int64 → Int32 → Mem → Option (Int64 × Mem)
  | 0, _, _, _ => none
  | fu + 1, y4, x6, M => (if x2 ≤ x6 then some (y4, M) else bd2 (f_X5_beginThought x6 M) fun r15 M15 => (if r15 = true then b_X5_trailOf_37 N x1 x2 x3 (b_X5_trailOf_6 N x1 x2 x3 fu) y4 x6 (sFJ M15 4 8 ((1 : Int64) <<< ((FI M15 4 2).toInt64 &&& 63))) else b_X5_trailOf_54 N x1 x2 x3 (b_X5_trailOf_6 N x1 x2 x3 fu) y4 x6 M15))
set_option maxHeartbeats 4000000 in
set_option maxRecDepth 100000 in
theorem w_X5_trailOf_6 (C : CX p s m args meth c cX5_trailOf 7 (some .long) RX5 D cy ad zz 0 82 A) {N : Nat} {x1 : Int32} {x2 : Int32} {x3 : Int32} {rr : Int64} {M' : Mem}  : ∀ (fu : Nat), ∀ (y4 : Int64), ∀ (x6 : Int32), ∀ (M : Mem), ∀ (H : Heap) (locs : List Loc), va_P D vwCl (pool cy ad 0 82 M) H → va_D A (pool cy ad 0 82 M) → va_S A s.heap H locs → ∀ (ls : Array Slot), lv_has ls 7 [(0, .ref (ad 0)), (2, .int x2), (3, .int x3), (4, .long y4), (6, .int x6)] → b_X5_trailOf_6 N x1 x2 x3 fu y4 x6 M = some (rr, M') → W p l e ({ frames := 6, cells := 0, slots := 0, locals := 142 } : Room) s m args below meth c H locs 0 0 (MQ below (va_Ql (fun (x : Int64) (_ : Unit) => x = rr) (fun _ t => PA D cy ad 0 82 A M' t) A) args s 0 0 A) (F0 m 6 ls []) := by
  obtain ⟨hx, hb, hml, hown, hts, hr, hlk, hK, hN, hA, hX⟩ := id C
  intro fu
  induction fu with
  | zero =>
    intro y4 x6 M H locs hP hD hS ls hl h
    exact no_some (show none = some _ from h)
  | succ fu ih =>
    intro y4 x6 M H locs hP hD hS ls hl h
    rw [b_X5_trailOf_6] at h
    refine lv_iload hx hb dX5_trailOf_6 (lv_at hl 4 rfl) ?_
    refine lv_iload_n hx hb dX5_trailOf_8 rfl (lv_at hl 1 rfl) ?_
    refine lv_icmp_ge (tgt := 60) hx hb dX5_trailOf_9 (by decide) (fun c9 => ?_) (fun c9 => ?_)
    · replace h := it_t c9 h
      refine lv_lload hx hb dX5_trailOf_60 (lv_at hl 3 rfl) ?_
      exact rt_l (r := y4) C hP hD hS dX5_trailOf_62 (rw_end h)
    · replace h := it_f c9 h
      refine lv_aload_n hx hb dX5_trailOf_12 rfl (lv_at hl 0 rfl) ?_
      refine lv_iload hx hb dX5_trailOf_13 (lv_at hl 4 rfl) ?_
      obtain ⟨r15, M15, g15, h⟩ := bd2_of h
      refine call_iV (As := [.int x6]) (rest := []) C hP hD hS (c_X5_beginThought g15) (iL (by decide)) ⟨5, _, _, ent_5 (by decide), rfl, rfl⟩ (gV wd_648 wd_650 wd_21 wd_64 wd_651) ev_X5_beginThought ⟨rfl, rfl⟩ ⟨Nat.le_of_ble_eq_true rfl, Nat.le_of_ble_eq_true rfl⟩ hl.1 rfl (Nat.le_of_ble_eq_true rfl) dX5_trailOf_15 (fun H locs hP hD hS => ?_)
      refine lv_if_eq (tgt := 54) hx hb dX5_trailOf_18 (by decide) (fun c18 => ?_) (fun c18 => ?_)
      · replace h := it_f (b2i_n c18) h
        exact w_X5_trailOf_54 C ih hP hD hS hl h
      · replace h := it_t (b2i_1 c18) h
        refine lv_aload_n hx hb dX5_trailOf_21 rfl (lv_at hl 0 rfl) ?_
        refine gf_5_3 C hP (iL (by decide)) (by decide) wd_377 dX5_trailOf_22 ?_
        refine lv_lconst (v := 1) hx hb dX5_trailOf_25 (by decide) ?_
        refine lv_aload_n hx hb dX5_trailOf_26 rfl (lv_at hl 0 rfl) ?_
        refine gf_5_3 C hP (iL (by decide)) (by decide) wd_377 dX5_trailOf_27 ?_
        refine gf_2_2 C hP (iL (by decide)) (by decide) wd_106 dX5_trailOf_30 ?_
        refine lv_lshl (v := ((1 : Int64) <<< ((FI M15 4 2).toInt64 &&& 63))) hx hb dX5_trailOf_33 rfl ?_
        refine pf_2_8 C hP hD hS (iL (by decide)) (by decide) wd_118 dX5_trailOf_34 (fun H locs hP hD hS => ?_)
        exact w_X5_trailOf_37 C ih hP hD hS hl h
def b_X5_trailOf_0 (N : Nat) (x1 : Int32) (x2 : Int32) (x3 : Int32) (M : Mem) : Option (Int64 × Mem) := b_X5_trailOf_6 N x1 x2 x3 N (0 : Int64) x1 M
set_option maxHeartbeats 4000000 in
set_option maxRecDepth 100000 in
theorem w_X5_trailOf_0 (C : CX p s m args meth c cX5_trailOf 7 (some .long) RX5 D cy ad zz 0 82 A) {N : Nat} {M : Mem} {x1 : Int32} {x2 : Int32} {x3 : Int32} {rr : Int64} {M' : Mem} {H : Heap} {locs : List Loc} (hP : va_P D vwCl (pool cy ad 0 82 M) H) (hD : va_D A (pool cy ad 0 82 M)) (hS : va_S A s.heap H locs) {ls : Array Slot} (hl : lv_has ls 7 [(0, .ref (ad 0)), (1, .int x1), (2, .int x2), (3, .int x3)]) (h : b_X5_trailOf_0 N x1 x2 x3 M = some (rr, M')) : W p l e ({ frames := 6, cells := 0, slots := 0, locals := 142 } : Room) s m args below meth c H locs 0 0 (MQ below (va_Ql (fun (x : Int64) (_ : Unit) => x = rr) (fun _ t => PA D cy ad 0 82 A M' t) A) args s 0 0 A) (F0 m 0 ls []) := by
  obtain ⟨hx, hb, hml, hown, hts, hr, hlk, hK, hN, hA, hX⟩ := id C
  unfold b_X5_trailOf_0 at h
  refine lv_lconst (v := 0) hx hb dX5_trailOf_0 (by decide) ?_
  refine lv_lstore (lv' := [(4, .long (0 : Int64)), (0, .ref (ad 0)), (1, .int x1), (2, .int x2), (3, .int x3)]) hx hb dX5_trailOf_1 hl (by decide) rfl (fun ls hl => ?_)
  refine lv_iload_n hx hb dX5_trailOf_3 rfl (lv_at hl 2 rfl) ?_
  refine lv_istore (lv' := [(6, .int x1), (4, .long (0 : Int64)), (0, .ref (ad 0)), (1, .int x1), (2, .int x2), (3, .int x3)]) hx hb dX5_trailOf_4 hl (by decide) rfl (fun ls hl => ?_)
  exact w_X5_trailOf_6 C N _ _ _ _ _ hP hD hS _ (lv_sub hl [2, 4, 5, 1, 0] rfl) h
def f_X5_trailOf (N : Nat) (x1 : Int32) (x2 : Int32) (x3 : Int32) (M : Mem) : Option (Int64 × Mem) := b_X5_trailOf_0 N x1 x2 x3 M
theorem c_X5_trailOf {l : Launch} {D : va_G} {cy : Nat → ClassId} {ad : Nat → Nat} {zz : (Nat → Nat) × (Nat → Nat)} {N : Nat} {x1 : Int32} {x2 : Int32} {x3 : Int32} {M : Mem} {rr : Int64} {M' : Mem} (h : f_X5_trailOf N x1 x2 x3 M = some (rr, M')) : CTl l D cy ad zz 0 82 yX5_trailOf (.code yX5_trailOf cX5_trailOf 7 (some .long) :: tb) ({ frames := 6, cells := 0, slots := 0, locals := 142 } : Room) [.ref (ad 0), .int x1, .int x2, .int x3] M rr M' := by
  intro sz
  refine CX.of (by decide +kernel) (fun p e s m args below meth c H ls C hP hD hS hl => ?_) (Nat.le_of_ble_eq_true rfl)
  exact w_X5_trailOf_0 C hP hD hS hl h
theorem ev_X5_trailOf : yX5_trailOf.cls = RX5 ∧ yX5_trailOf.cls ≠ "java/lang/invoke/MethodHandle" ∧ yX5_trailOf.cls ≠ "java/lang/invoke/VarHandle" ∧ (parseMethodDescriptor yX5_trailOf.desc).map (fun d => d.parameters.length) = some 3 := by decide +kernel
def b_X5_track_0 (N : Nat) (x1 : Int32) (x2 : Int32) (M : Mem) : Option (Int64 × Mem) := (if x2 = (-2 : Int32) then some ((FJ M 1 0), M) else (if x1 < 0 then some ((-4611686018427387904 : Int64), M) else (if (40 : Int32) < x1 then some ((-4611686018427387904 : Int64), M) else (if x2 < (-1 : Int32) then some ((-4611686018427387904 : Int64), M) else (if x2 < (FI M 1 3) then (if x2 = (-1 : Int32) then bd2 (f_X5_trailOf N (0 : Int32) (FI M 1 3) x1 M) fun r59 M59 => some (r59, M59) else bd2 (f_X5_trailOf N x2 (x2 + (1 : Int32)) x1 M) fun r71 M71 => some (r71, M71)) else some ((-4611686018427387904 : Int64), M))))))
set_option maxHeartbeats 4000000 in
set_option maxRecDepth 100000 in
theorem w_X5_track_0 (C : CX p s m args meth c cX5_track 3 (some .long) RX5 D cy ad zz 0 82 A) {N : Nat} {M : Mem} {x1 : Int32} {x2 : Int32} {rr : Int64} {M' : Mem} {H : Heap} {locs : List Loc} (hP : va_P D vwCl (pool cy ad 0 82 M) H) (hD : va_D A (pool cy ad 0 82 M)) (hS : va_S A s.heap H locs) {ls : Array Slot} (hl : lv_has ls 3 [(0, .ref (ad 0)), (1, .int x1), (2, .int x2)]) (h : b_X5_track_0 N x1 x2 M = some (rr, M')) : W p l e ({ frames := 7, cells := 0, slots := 0, locals := 168 } : Room) s m args below meth c H locs 0 0 (MQ below (va_Ql (fun (x : Int64) (_ : Unit) => x = rr) (fun _ t => PA D cy ad 0 82 A M' t) A) args s 0 0 A) (F0 m 0 ls []) := by
  obtain ⟨hx, hb, hml, hown, hts, hr, hlk, hK, hN, hA, hX⟩ := id C
  unfold b_X5_track_0 at h
  refine lv_iload_n hx hb dX5_track_0 rfl (lv_at hl 2 rfl) ?_
  refine lv_bipush (v := -2) hx hb dX5_track_1 (by decide) ?_
  refine lv_icmp_ne (tgt := 14) hx hb dX5_track_3 (by decide) (fun c3 => ?_) (fun c3 => ?_)
  · replace h := it_f c3 h
    refine lv_iload_n hx hb dX5_track_14 rfl (lv_at hl 1 rfl) ?_
    refine lv_if_lt (tgt := 40) hx hb dX5_track_15 (by decide) (fun c15 => ?_) (fun c15 => ?_)
    · replace h := it_t c15 h
      refine lv_ldc2 hx hb hown (hts _ wd_643) dX5_track_40 ?_
      exact rt_l (r := (-4611686018427387904 : Int64)) C hP hD hS dX5_track_43 (rw_end h)
    · replace h := it_f c15 h
      refine lv_iload_n hx hb dX5_track_18 rfl (lv_at hl 1 rfl) ?_
      refine lv_bipush (v := 40) hx hb dX5_track_19 (by decide) ?_
      refine lv_icmp_gt (tgt := 40) hx hb dX5_track_21 (by decide) (fun c21 => ?_) (fun c21 => ?_)
      · replace h := it_t c21 h
        refine lv_ldc2 hx hb hown (hts _ wd_643) dX5_track_40 ?_
        exact rt_l (r := (-4611686018427387904 : Int64)) C hP hD hS dX5_track_43 (rw_end h)
      · replace h := it_f c21 h
        refine lv_iload_n hx hb dX5_track_24 rfl (lv_at hl 2 rfl) ?_
        refine lv_iconst (v := -1) hx hb dX5_track_25 (by decide) ?_
        refine lv_icmp_lt (tgt := 40) hx hb dX5_track_26 (by decide) (fun c26 => ?_) (fun c26 => ?_)
        · replace h := it_t c26 h
          refine lv_ldc2 hx hb hown (hts _ wd_643) dX5_track_40 ?_
          exact rt_l (r := (-4611686018427387904 : Int64)) C hP hD hS dX5_track_43 (rw_end h)
        · replace h := it_f c26 h
          refine lv_iload_n hx hb dX5_track_29 rfl (lv_at hl 2 rfl) ?_
          refine lv_aload_n hx hb dX5_track_30 rfl (lv_at hl 0 rfl) ?_
          refine gf_5_0 C hP (iL (by decide)) (by decide) wd_374 dX5_track_31 ?_
          refine gf_4_3 C hP (iL (by decide)) (by decide) wd_149 dX5_track_34 ?_
          refine lv_icmp_lt (tgt := 44) hx hb dX5_track_37 (by decide) (fun c37 => ?_) (fun c37 => ?_)
          · replace h := it_t c37 h
            refine lv_iload_n hx hb dX5_track_44 rfl (lv_at hl 2 rfl) ?_
            refine lv_iconst (v := -1) hx hb dX5_track_45 (by decide) ?_
            refine lv_icmp_ne (tgt := 65) hx hb dX5_track_46 (by decide) (fun c46 => ?_) (fun c46 => ?_)
            · replace h := it_f c46 h
              refine lv_aload_n hx hb dX5_track_65 rfl (lv_at hl 0 rfl) ?_
              refine lv_iload_n hx hb dX5_track_66 rfl (lv_at hl 2 rfl) ?_
              refine lv_iload_n hx hb dX5_track_67 rfl (lv_at hl 2 rfl) ?_
              refine lv_iconst (v := 1) hx hb dX5_track_68 (by decide) ?_
              refine lv_iadd hx hb dX5_track_69 ?_
              refine lv_iload_n hx hb dX5_track_70 rfl (lv_at hl 1 rfl) ?_
              obtain ⟨r71, M71, g71, h⟩ := bd2_of h
              refine call_lV (As := [.int x2, .int (x2 + (1 : Int32)), .int x1]) (rest := []) C hP hD hS (c_X5_trailOf g71) (iL (by decide)) ⟨5, _, _, ent_5 (by decide), rfl, rfl⟩ (gV wd_644 wd_646 wd_20 wd_64 wd_647) ev_X5_trailOf ⟨rfl, rfl⟩ ⟨Nat.le_of_ble_eq_true rfl, Nat.le_of_ble_eq_true rfl⟩ hl.1 rfl (Nat.le_of_ble_eq_true rfl) dX5_track_71 (fun H locs hP hD hS => ?_)
              exact rt_l (r := r71) C hP hD hS dX5_track_74 (rw_end h)
            · replace h := it_t c46 h
              refine lv_aload_n hx hb dX5_track_49 rfl (lv_at hl 0 rfl) ?_
              refine lv_iconst (v := 0) hx hb dX5_track_50 (by decide) ?_
              refine lv_aload_n hx hb dX5_track_51 rfl (lv_at hl 0 rfl) ?_
              refine gf_5_0 C hP (iL (by decide)) (by decide) wd_374 dX5_track_52 ?_
              refine gf_4_3 C hP (iL (by decide)) (by decide) wd_149 dX5_track_55 ?_
              refine lv_iload_n hx hb dX5_track_58 rfl (lv_at hl 1 rfl) ?_
              obtain ⟨r59, M59, g59, h⟩ := bd2_of h
              refine call_lV (As := [.int (0 : Int32), .int (FI M 1 3), .int x1]) (rest := []) C hP hD hS (c_X5_trailOf g59) (iL (by decide)) ⟨5, _, _, ent_5 (by decide), rfl, rfl⟩ (gV wd_644 wd_646 wd_20 wd_64 wd_647) ev_X5_trailOf ⟨rfl, rfl⟩ ⟨Nat.le_of_ble_eq_true rfl, Nat.le_of_ble_eq_true rfl⟩ hl.1 rfl (Nat.le_of_ble_eq_true rfl) dX5_track_59 (fun H locs hP hD hS => ?_)
              refine lv_goto (tgt := 74) hx hb dX5_track_62 (by decide) ?_
              exact rt_l (r := r59) C hP hD hS dX5_track_74 (rw_end h)
          · replace h := it_f c37 h
            refine lv_ldc2 hx hb hown (hts _ wd_643) dX5_track_40 ?_
            exact rt_l (r := (-4611686018427387904 : Int64)) C hP hD hS dX5_track_43 (rw_end h)
  · replace h := it_t c3 h
    refine lv_aload_n hx hb dX5_track_6 rfl (lv_at hl 0 rfl) ?_
    refine gf_5_0 C hP (iL (by decide)) (by decide) wd_374 dX5_track_7 ?_
    refine gf_4_0 C hP (iL (by decide)) (by decide) wd_143 dX5_track_10 ?_
    exact rt_l (r := (FJ M 1 0)) C hP hD hS dX5_track_13 (rw_end h)
def f_X5_track (N : Nat) (x1 : Int32) (x2 : Int32) (M : Mem) : Option (Int64 × Mem) := b_X5_track_0 N x1 x2 M
theorem c_X5_track {l : Launch} {D : va_G} {cy : Nat → ClassId} {ad : Nat → Nat} {zz : (Nat → Nat) × (Nat → Nat)} {N : Nat} {x1 : Int32} {x2 : Int32} {M : Mem} {rr : Int64} {M' : Mem} (h : f_X5_track N x1 x2 M = some (rr, M')) : CTl l D cy ad zz 0 82 yX5_track (.code yX5_track cX5_track 3 (some .long) :: tb) ({ frames := 7, cells := 0, slots := 0, locals := 168 } : Room) [.ref (ad 0), .int x1, .int x2] M rr M' := by
  intro sz
  refine CX.of (by decide +kernel) (fun p e s m args below meth c H ls C hP hD hS hl => ?_) (Nat.le_of_ble_eq_true rfl)
  exact w_X5_track_0 C hP hD hS hl h
theorem ev_X5_track : yX5_track.cls = RX5 ∧ yX5_track.cls ≠ "java/lang/invoke/MethodHandle" ∧ yX5_track.cls ≠ "java/lang/invoke/VarHandle" ∧ (parseMethodDescriptor yX5_track.desc).map (fun d => d.parameters.length) = some 2 := by decide +kernel
def b_X5_comes_23 (N : Nat) (x1 : Int32) (x2 : Int32) : Nat → Int32 → Mem → Option (Int32 × Mem)
  | 0, _, _ => none
  | fu + 1, x3, M => (if (60 : Int32) < x3 then some ((-1 : Int32), M) else (if (FI M 4 2) = x2 then some (x3, M) else (f_X5_theLaw M).bind fun r47 => gd (isK r47 3) (bd2 (f_X2_walk N 4 r47 ((FI M 1 1) + x3) (FJ M 1 0) M) fun r66 M66 => b_X5_comes_23 N x1 x2 fu (x3 + (1 : Int32)) M66)))
set_option maxHeartbeats 4000000 in
set_option maxRecDepth 100000 in
theorem w_X5_comes_23 (C : CX p s m args meth c cX5_comes 4 (some .int) RX5 D cy ad zz 0 82 A) {N : Nat} {x1 : Int32} {x2 : Int32} {rr : Int32} {M' : Mem}  : ∀ (fu : Nat), ∀ (x3 : Int32), ∀ (M : Mem), ∀ (H : Heap) (locs : List Loc), va_P D vwCl (pool cy ad 0 82 M) H → va_D A (pool cy ad 0 82 M) → va_S A s.heap H locs → ∀ (ls : Array Slot), lv_has ls 4 [(0, .ref (ad 0)), (2, .int x2), (3, .int x3)] → b_X5_comes_23 N x1 x2 fu x3 M = some (rr, M') → W p l e ({ frames := 5, cells := 0, slots := 0, locals := 120 } : Room) s m args below meth c H locs 0 0 (MQ below (va_Qi (fun (x : Int32) (_ : Unit) => x = rr) (fun _ t => PA D cy ad 0 82 A M' t) A) args s 0 0 A) (F0 m 23 ls []) := by
  obtain ⟨hx, hb, hml, hown, hts, hr, hlk, hK, hN, hA, hX⟩ := id C
  intro fu
  induction fu with
  | zero =>
    intro x3 M H locs hP hD hS ls hl h
    exact no_some (show none = some _ from h)
  | succ fu ih =>
    intro x3 M H locs hP hD hS ls hl h
    rw [b_X5_comes_23] at h
    refine lv_iload_n hx hb dX5_comes_23 rfl (lv_at hl 2 rfl) ?_
    refine lv_bipush (v := 60) hx hb dX5_comes_24 (by decide) ?_
    refine lv_icmp_gt (tgt := 76) hx hb dX5_comes_26 (by decide) (fun c26 => ?_) (fun c26 => ?_)
    · replace h := it_t c26 h
      refine lv_iconst (v := -1) hx hb dX5_comes_76 (by decide) ?_
      exact rt_i (r := (-1 : Int32)) C hP hD hS dX5_comes_77 (rw_end h)
    · replace h := it_f c26 h
      refine lv_aload_n hx hb dX5_comes_29 rfl (lv_at hl 0 rfl) ?_
      refine gf_5_3 C hP (iL (by decide)) (by decide) wd_377 dX5_comes_30 ?_
      refine gf_2_2 C hP (iL (by decide)) (by decide) wd_106 dX5_comes_33 ?_
      refine lv_iload_n hx hb dX5_comes_36 rfl (lv_at hl 1 rfl) ?_
      refine lv_icmp_ne (tgt := 42) hx hb dX5_comes_37 (by decide) (fun c37 => ?_) (fun c37 => ?_)
      · replace h := it_f c37 h
        refine lv_aload_n hx hb dX5_comes_42 rfl (lv_at hl 0 rfl) ?_
        refine gf_5_3 C hP (iL (by decide)) (by decide) wd_377 dX5_comes_43 ?_
        refine lv_aload_n hx hb dX5_comes_46 rfl (lv_at hl 0 rfl) ?_
        obtain ⟨r47, g47, h⟩ := bd_of h
        refine call_rV (As := []) (rest := [.ref (ad 4)]) C hP hD hS (c_X5_theLaw g47) (iL (by decide)) ⟨5, _, _, ent_5 (by decide), rfl, rfl⟩ (gV wd_459 wd_461 wd_13 wd_64 wd_462) ev_X5_theLaw ⟨rfl, rfl⟩ ⟨Nat.le_of_ble_eq_true rfl, Nat.le_of_ble_eq_true rfl⟩ hl.1 rfl (Nat.le_of_ble_eq_true rfl) dX5_comes_47 (fun H locs hP hD hS => ?_)
        refine lv_aload_n hx hb dX5_comes_50 rfl (lv_at hl 0 rfl) ?_
        refine gf_5_0 C hP (iL (by decide)) (by decide) wd_374 dX5_comes_51 ?_
        refine gf_4_1 C hP (iL (by decide)) (by decide) wd_145 dX5_comes_54 ?_
        refine lv_iload_n hx hb dX5_comes_57 rfl (lv_at hl 2 rfl) ?_
        refine lv_iadd hx hb dX5_comes_58 ?_
        refine lv_aload_n hx hb dX5_comes_59 rfl (lv_at hl 0 rfl) ?_
        refine gf_5_0 C hP (iL (by decide)) (by decide) wd_374 dX5_comes_60 ?_
        refine gf_4_0 C hP (iL (by decide)) (by decide) wd_143 dX5_comes_63 ?_
        obtain ⟨gk1, h⟩ := gd_of h
        obtain ⟨r66, M66, g66, h⟩ := bd2_of h
        refine call_iV (As := [.ref (ad r47), .int ((FI M 1 1) + x3), .long (FJ M 1 0)]) (rest := []) C hP hD hS (c_X2_walk (by decide) (isK_of gk1) g66) (iL (by decide)) ⟨2, _, _, ent_2 (by decide), rfl, rfl⟩ (gV wd_657 wd_594 wd_595 wd_66 wd_596) ev_X2_walk ⟨rfl, rfl⟩ ⟨Nat.le_of_ble_eq_true rfl, Nat.le_of_ble_eq_true rfl⟩ hl.1 rfl (Nat.le_of_ble_eq_true rfl) dX5_comes_66 (fun H locs hP hD hS => ?_)
        refine lv_pop hx hb dX5_comes_69 rfl ?_
        refine lv_iinc (v := (x3 + (1 : Int32))) (lv' := [(3, .int (x3 + (1 : Int32))), (0, .ref (ad 0)), (2, .int x2)]) hx hb dX5_comes_70 hl (k := 2) rfl rfl (by decide) rfl (fun ls hl => ?_)
        refine lv_goto (tgt := 23) hx hb dX5_comes_73 (by decide) ?_
        exact ih _ _ _ _ hP hD hS _ (lv_sub hl [1, 2, 0] rfl) h
      · replace h := it_t c37 h
        refine lv_iload_n hx hb dX5_comes_40 rfl (lv_at hl 2 rfl) ?_
        exact rt_i (r := x3) C hP hD hS dX5_comes_41 (rw_end h)
def b_X5_comes_0 (N : Nat) (x1 : Int32) (x2 : Int32) (M : Mem) : Option (Int32 × Mem) := bd2 (f_X5_beginThought x1 M) fun r2 M2 => (if r2 = true then (f_X5_isCell x2 M2).bind fun r12 => (if r12 = true then b_X5_comes_23 N x1 x2 N (0 : Int32) M2 else some ((-7 : Int32), M2)) else some ((-5 : Int32), M2))
set_option maxHeartbeats 4000000 in
set_option maxRecDepth 100000 in
theorem w_X5_comes_0 (C : CX p s m args meth c cX5_comes 4 (some .int) RX5 D cy ad zz 0 82 A) {N : Nat} {M : Mem} {x1 : Int32} {x2 : Int32} {rr : Int32} {M' : Mem} {H : Heap} {locs : List Loc} (hP : va_P D vwCl (pool cy ad 0 82 M) H) (hD : va_D A (pool cy ad 0 82 M)) (hS : va_S A s.heap H locs) {ls : Array Slot} (hl : lv_has ls 4 [(0, .ref (ad 0)), (1, .int x1), (2, .int x2)]) (h : b_X5_comes_0 N x1 x2 M = some (rr, M')) : W p l e ({ frames := 5, cells := 0, slots := 0, locals := 120 } : Room) s m args below meth c H locs 0 0 (MQ below (va_Qi (fun (x : Int32) (_ : Unit) => x = rr) (fun _ t => PA D cy ad 0 82 A M' t) A) args s 0 0 A) (F0 m 0 ls []) := by
  obtain ⟨hx, hb, hml, hown, hts, hr, hlk, hK, hN, hA, hX⟩ := id C
  unfold b_X5_comes_0 at h
  refine lv_aload_n hx hb dX5_comes_0 rfl (lv_at hl 0 rfl) ?_
  refine lv_iload_n hx hb dX5_comes_1 rfl (lv_at hl 1 rfl) ?_
  obtain ⟨r2, M2, g2, h⟩ := bd2_of h
  refine call_iV (As := [.int x1]) (rest := []) C hP hD hS (c_X5_beginThought g2) (iL (by decide)) ⟨5, _, _, ent_5 (by decide), rfl, rfl⟩ (gV wd_648 wd_650 wd_21 wd_64 wd_651) ev_X5_beginThought ⟨rfl, rfl⟩ ⟨Nat.le_of_ble_eq_true rfl, Nat.le_of_ble_eq_true rfl⟩ hl.1 rfl (Nat.le_of_ble_eq_true rfl) dX5_comes_2 (fun H locs hP hD hS => ?_)
  refine lv_if_ne (tgt := 11) hx hb dX5_comes_5 (by decide) (fun c5 => ?_) (fun c5 => ?_)
  · replace h := it_t (b2i_1 c5) h
    refine lv_iload_n hx hb dX5_comes_11 rfl (lv_at hl 2 rfl) ?_
    obtain ⟨r12, g12, h⟩ := bd_of h
    refine call_iS (As := [.int x2]) (rest := []) C hP hD hS (c_X5_isCell g12) (gS wd_426 wd_427 wd_64 wd_428) es_X5_isCell ⟨rfl, rfl⟩ ⟨Nat.le_of_ble_eq_true rfl, Nat.le_of_ble_eq_true rfl⟩ hl.1 rfl (Nat.le_of_ble_eq_true rfl) dX5_comes_12 (fun H locs hP hD hS => ?_)
    refine lv_if_ne (tgt := 21) hx hb dX5_comes_15 (by decide) (fun c15 => ?_) (fun c15 => ?_)
    · replace h := it_t (b2i_1 c15) h
      refine lv_iconst (v := 0) hx hb dX5_comes_21 (by decide) ?_
      refine lv_istore_n (lv' := [(3, .int (0 : Int32)), (0, .ref (ad 0)), (1, .int x1), (2, .int x2)]) hx hb dX5_comes_22 rfl hl (by decide) rfl (fun ls hl => ?_)
      exact w_X5_comes_23 C N _ _ _ _ hP hD hS _ (lv_sub hl [1, 3, 0] rfl) h
    · replace h := it_f (b2i_n c15) h
      refine lv_bipush (v := -7) hx hb dX5_comes_18 (by decide) ?_
      exact rt_i (r := (-7 : Int32)) C hP hD hS dX5_comes_20 (rw_end h)
  · replace h := it_f (b2i_n c5) h
    refine lv_bipush (v := -5) hx hb dX5_comes_8 (by decide) ?_
    exact rt_i (r := (-5 : Int32)) C hP hD hS dX5_comes_10 (rw_end h)
def f_X5_comes (N : Nat) (x1 : Int32) (x2 : Int32) (M : Mem) : Option (Int32 × Mem) := b_X5_comes_0 N x1 x2 M
theorem c_X5_comes {l : Launch} {D : va_G} {cy : Nat → ClassId} {ad : Nat → Nat} {zz : (Nat → Nat) × (Nat → Nat)} {N : Nat} {x1 : Int32} {x2 : Int32} {M : Mem} {rr : Int32} {M' : Mem} (h : f_X5_comes N x1 x2 M = some (rr, M')) : CTi l D cy ad zz 0 82 yX5_comes (.code yX5_comes cX5_comes 4 (some .int) :: tb) ({ frames := 5, cells := 0, slots := 0, locals := 120 } : Room) [.ref (ad 0), .int x1, .int x2] M rr M' := by
  intro sz
  refine CX.of (by decide +kernel) (fun p e s m args below meth c H ls C hP hD hS hl => ?_) (Nat.le_of_ble_eq_true rfl)
  exact w_X5_comes_0 C hP hD hS hl h
theorem ev_X5_comes : yX5_comes.cls = RX5 ∧ yX5_comes.cls ≠ "java/lang/invoke/MethodHandle" ∧ yX5_comes.cls ≠ "java/lang/invoke/VarHandle" ∧ (parseMethodDescriptor yX5_comes.desc).map (fun d => d.parameters.length) = some 2 := by decide +kernel
def b_X5_meet_75 (N : Nat) (x1 : Int32) (x2 : Int32) : Nat → Nat → Nat → Int32 → Mem → Option (Int32 × Mem)
  | 0, _, _, _, _ => none
  | fu + 1, j3, j4, x5, M => (if (60 : Int32) < x5 then some ((-1 : Int32), M) else gd (isK j3 2) (gd (isK j4 2) ((if (FI M j3 2) = (FI M j4 2) then some (x5, M) else (f_X5_theLaw M).bind fun r102 => gd (isK r102 3) (bd2 (f_X4_pass N 2 r102 M) fun r105 M105 => b_X5_meet_75 N x1 x2 fu j3 j4 (x5 + (1 : Int32)) M105)))))
set_option maxHeartbeats 4000000 in
set_option maxRecDepth 100000 in
theorem w_X5_meet_75 (C : CX p s m args meth c cX5_meet 6 (some .int) RX5 D cy ad zz 0 82 A) {N : Nat} {x1 : Int32} {x2 : Int32} {rr : Int32} {M' : Mem}  : ∀ (fu : Nat), ∀ (j3 : Nat), ∀ (j4 : Nat), ∀ (x5 : Int32), ∀ (M : Mem), ∀ (H : Heap) (locs : List Loc), va_P D vwCl (pool cy ad 0 82 M) H → va_D A (pool cy ad 0 82 M) → va_S A s.heap H locs → ∀ (ls : Array Slot), lv_has ls 6 [(0, .ref (ad 0)), (3, .ref (ad j3)), (4, .ref (ad j4)), (5, .int x5)] → b_X5_meet_75 N x1 x2 fu j3 j4 x5 M = some (rr, M') → W p l e ({ frames := 6, cells := 0, slots := 0, locals := 143 } : Room) s m args below meth c H locs 0 0 (MQ below (va_Qi (fun (x : Int32) (_ : Unit) => x = rr) (fun _ t => PA D cy ad 0 82 A M' t) A) args s 0 0 A) (F0 m 75 ls []) := by
  obtain ⟨hx, hb, hml, hown, hts, hr, hlk, hK, hN, hA, hX⟩ := id C
  intro fu
  induction fu with
  | zero =>
    intro j3 j4 x5 M H locs hP hD hS ls hl h
    exact no_some (show none = some _ from h)
  | succ fu ih =>
    intro j3 j4 x5 M H locs hP hD hS ls hl h
    rw [b_X5_meet_75] at h
    refine lv_iload hx hb dX5_meet_75 (lv_at hl 3 rfl) ?_
    refine lv_bipush (v := 60) hx hb dX5_meet_77 (by decide) ?_
    refine lv_icmp_gt (tgt := 115) hx hb dX5_meet_79 (by decide) (fun c79 => ?_) (fun c79 => ?_)
    · replace h := it_t c79 h
      refine lv_iconst (v := -1) hx hb dX5_meet_115 (by decide) ?_
      exact rt_i (r := (-1 : Int32)) C hP hD hS dX5_meet_116 (rw_end h)
    · replace h := it_f c79 h
      refine lv_aload_n hx hb dX5_meet_82 rfl (lv_at hl 1 rfl) ?_
      obtain ⟨gk1, h⟩ := gd_of h
      refine gf_2_2 C hP (p_2 (isK_of gk1)) (isK_of gk1) wd_106 dX5_meet_83 ?_
      refine lv_aload hx hb dX5_meet_86 (lv_at hl 2 rfl) ?_
      obtain ⟨gk2, h⟩ := gd_of h
      refine gf_2_2 C hP (p_2 (isK_of gk2)) (isK_of gk2) wd_106 dX5_meet_88 ?_
      refine lv_icmp_ne (tgt := 97) hx hb dX5_meet_91 (by decide) (fun c91 => ?_) (fun c91 => ?_)
      · replace h := it_f c91 h
        refine lv_aload_n hx hb dX5_meet_97 rfl (lv_at hl 0 rfl) ?_
        refine gf_5_1 C hP (iL (by decide)) (by decide) wd_375 dX5_meet_98 ?_
        refine lv_aload_n hx hb dX5_meet_101 rfl (lv_at hl 0 rfl) ?_
        obtain ⟨r102, g102, h⟩ := bd_of h
        refine call_rV (As := []) (rest := [.ref (ad 2)]) C hP hD hS (c_X5_theLaw g102) (iL (by decide)) ⟨5, _, _, ent_5 (by decide), rfl, rfl⟩ (gV wd_459 wd_461 wd_13 wd_64 wd_462) ev_X5_theLaw ⟨rfl, rfl⟩ ⟨Nat.le_of_ble_eq_true rfl, Nat.le_of_ble_eq_true rfl⟩ hl.1 rfl (Nat.le_of_ble_eq_true rfl) dX5_meet_102 (fun H locs hP hD hS => ?_)
        obtain ⟨gk3, h⟩ := gd_of h
        obtain ⟨r105, M105, g105, h⟩ := bd2_of h
        refine call_iV (As := [.ref (ad r102)]) (rest := []) C hP hD hS (c_X4_pass (by decide) (isK_of gk3) g105) (iL (by decide)) ⟨4, _, _, ent_4 (by decide), rfl, rfl⟩ (gV wd_589 wd_590 wd_591 wd_65 wd_592) ev_X4_pass ⟨rfl, rfl⟩ ⟨Nat.le_of_ble_eq_true rfl, Nat.le_of_ble_eq_true rfl⟩ hl.1 rfl (Nat.le_of_ble_eq_true rfl) dX5_meet_105 (fun H locs hP hD hS => ?_)
        refine lv_pop hx hb dX5_meet_108 rfl ?_
        refine lv_iinc (v := (x5 + (1 : Int32))) (lv' := [(5, .int (x5 + (1 : Int32))), (0, .ref (ad 0)), (3, .ref (ad j3)), (4, .ref (ad j4))]) hx hb dX5_meet_109 hl (k := 3) rfl rfl (by decide) rfl (fun ls hl => ?_)
        refine lv_goto (tgt := 75) hx hb dX5_meet_112 (by decide) ?_
        exact ih _ _ _ _ _ _ hP hD hS _ (lv_sub hl [1, 2, 3, 0] rfl) h
      · replace h := it_t c91 h
        refine lv_iload hx hb dX5_meet_94 (lv_at hl 3 rfl) ?_
        exact rt_i (r := x5) C hP hD hS dX5_meet_96 (rw_end h)
def b_X5_meet_0 (N : Nat) (x1 : Int32) (x2 : Int32) (M : Mem) : Option (Int32 × Mem) := (if x1 = x2 then some ((-5 : Int32), M) else (f_X4_numbered 1 x1 M).bind fun r10 => (oc r10 (some ((-5 : Int32), M)) (fun (j13 : Nat) => (f_X4_numbered 1 x2 M).bind fun r21 => (oc r21 (some ((-5 : Int32), M)) (fun (j24 : Nat) => (f_X4_becomeAs N 2 1 M).bind fun M38 => (f_X4_numbered 2 x1 M38).bind fun r46 => (f_X4_numbered 2 x2 M38).bind fun r55 => (oc r46 (some ((-5 : Int32), M38)) (fun (j61 : Nat) => (oc r55 (some ((-5 : Int32), M38)) (fun (j66 : Nat) => b_X5_meet_75 N x1 x2 N j61 j66 (0 : Int32) M38)))))))))
set_option maxHeartbeats 4000000 in
set_option maxRecDepth 100000 in
theorem w_X5_meet_0 (C : CX p s m args meth c cX5_meet 6 (some .int) RX5 D cy ad zz 0 82 A) {N : Nat} {M : Mem} {x1 : Int32} {x2 : Int32} {rr : Int32} {M' : Mem} {H : Heap} {locs : List Loc} (hP : va_P D vwCl (pool cy ad 0 82 M) H) (hD : va_D A (pool cy ad 0 82 M)) (hS : va_S A s.heap H locs) {ls : Array Slot} (hl : lv_has ls 6 [(0, .ref (ad 0)), (1, .int x1), (2, .int x2)]) (h : b_X5_meet_0 N x1 x2 M = some (rr, M')) : W p l e ({ frames := 6, cells := 0, slots := 0, locals := 143 } : Room) s m args below meth c H locs 0 0 (MQ below (va_Qi (fun (x : Int32) (_ : Unit) => x = rr) (fun _ t => PA D cy ad 0 82 A M' t) A) args s 0 0 A) (F0 m 0 ls []) := by
  obtain ⟨hx, hb, hml, hown, hts, hr, hlk, hK, hN, hA, hX⟩ := id C
  unfold b_X5_meet_0 at h
  refine lv_iload_n hx hb dX5_meet_0 rfl (lv_at hl 1 rfl) ?_
  refine lv_iload_n hx hb dX5_meet_1 rfl (lv_at hl 2 rfl) ?_
  refine lv_icmp_eq (tgt := 27) hx hb dX5_meet_2 (by decide) (fun c2 => ?_) (fun c2 => ?_)
  · replace h := it_t c2 h
    refine lv_bipush (v := -5) hx hb dX5_meet_27 (by decide) ?_
    exact rt_i (r := (-5 : Int32)) C hP hD hS dX5_meet_29 (rw_end h)
  · replace h := it_f c2 h
    refine lv_aload_n hx hb dX5_meet_5 rfl (lv_at hl 0 rfl) ?_
    refine gf_5_0 C hP (iL (by decide)) (by decide) wd_374 dX5_meet_6 ?_
    refine lv_iload_n hx hb dX5_meet_9 rfl (lv_at hl 1 rfl) ?_
    obtain ⟨r10, g10, h⟩ := bd_of h
    refine call_qV (As := [.int x1]) (rest := []) C hP hD hS (c_X4_numbered (by decide) g10) (iL (by decide)) ⟨4, _, _, ent_4 (by decide), rfl, rfl⟩ (gV wd_455 wd_456 wd_457 wd_65 wd_458) ev_X4_numbered ⟨rfl, rfl⟩ ⟨Nat.le_of_ble_eq_true rfl, Nat.le_of_ble_eq_true rfl⟩ hl.1 rfl (Nat.le_of_ble_eq_true rfl) dX5_meet_10 (fun H locs hP hD hS => ?_)
    cases r10 with
    | none =>
      replace h := oc_n h
      have hl : lv_has ls 6 [(0, .ref (ad 0)), (1, .int x1), (2, .int x2)] := hl
      refine W.eq (g2 := F0 m 13 ls [.null]) rfl ?_
      refine lv_ifnullN (tgt := 27) hx hb dX5_meet_13 (by decide) ?_
      refine lv_bipush (v := -5) hx hb dX5_meet_27 (by decide) ?_
      exact rt_i (r := (-5 : Int32)) C hP hD hS dX5_meet_29 (rw_end h)
    | some j13 =>
      replace h := oc_s h
      have hl : lv_has ls 6 [(0, .ref (ad 0)), (1, .int x1), (2, .int x2)] := hl
      refine W.eq (g2 := F0 m 13 ls [.ref (ad j13)]) rfl ?_
      refine lv_ifnull hx hb dX5_meet_13 ?_
      refine lv_aload_n hx hb dX5_meet_16 rfl (lv_at hl 0 rfl) ?_
      refine gf_5_0 C hP (iL (by decide)) (by decide) wd_374 dX5_meet_17 ?_
      refine lv_iload_n hx hb dX5_meet_20 rfl (lv_at hl 2 rfl) ?_
      obtain ⟨r21, g21, h⟩ := bd_of h
      refine call_qV (As := [.int x2]) (rest := []) C hP hD hS (c_X4_numbered (by decide) g21) (iL (by decide)) ⟨4, _, _, ent_4 (by decide), rfl, rfl⟩ (gV wd_455 wd_456 wd_457 wd_65 wd_458) ev_X4_numbered ⟨rfl, rfl⟩ ⟨Nat.le_of_ble_eq_true rfl, Nat.le_of_ble_eq_true rfl⟩ hl.1 rfl (Nat.le_of_ble_eq_true rfl) dX5_meet_21 (fun H locs hP hD hS => ?_)
      cases r21 with
      | none =>
        replace h := oc_n h
        have hl : lv_has ls 6 [(0, .ref (ad 0)), (1, .int x1), (2, .int x2)] := hl
        refine W.eq (g2 := F0 m 24 ls [.null]) rfl ?_
        refine lv_ifnonnullN hx hb dX5_meet_24 ?_
        refine lv_bipush (v := -5) hx hb dX5_meet_27 (by decide) ?_
        exact rt_i (r := (-5 : Int32)) C hP hD hS dX5_meet_29 (rw_end h)
      | some j24 =>
        replace h := oc_s h
        have hl : lv_has ls 6 [(0, .ref (ad 0)), (1, .int x1), (2, .int x2)] := hl
        refine W.eq (g2 := F0 m 24 ls [.ref (ad j24)]) rfl ?_
        refine lv_ifnonnull (tgt := 30) hx hb dX5_meet_24 (by decide) ?_
        refine lv_aload_n hx hb dX5_meet_30 rfl (lv_at hl 0 rfl) ?_
        refine gf_5_1 C hP (iL (by decide)) (by decide) wd_375 dX5_meet_31 ?_
        refine lv_aload_n hx hb dX5_meet_34 rfl (lv_at hl 0 rfl) ?_
        refine gf_5_0 C hP (iL (by decide)) (by decide) wd_374 dX5_meet_35 ?_
        obtain ⟨M38, g38, h⟩ := bd_of h
        refine call_vV (As := [.ref (ad 1)]) (rest := []) C hP hD hS (c_X4_becomeAs (by decide) (by decide) g38) (iL (by decide)) ⟨4, _, _, ent_4 (by decide), rfl, rfl⟩ (gV wd_615 wd_616 wd_617 wd_65 wd_618) ev_X4_becomeAs ⟨rfl, rfl⟩ ⟨Nat.le_of_ble_eq_true rfl, Nat.le_of_ble_eq_true rfl⟩ hl.1 rfl (Nat.le_of_ble_eq_true rfl) dX5_meet_38 (fun H locs hP hD hS => ?_)
        refine lv_aload_n hx hb dX5_meet_41 rfl (lv_at hl 0 rfl) ?_
        refine gf_5_1 C hP (iL (by decide)) (by decide) wd_375 dX5_meet_42 ?_
        refine lv_iload_n hx hb dX5_meet_45 rfl (lv_at hl 1 rfl) ?_
        obtain ⟨r46, g46, h⟩ := bd_of h
        refine call_qV (As := [.int x1]) (rest := []) C hP hD hS (c_X4_numbered (by decide) g46) (iL (by decide)) ⟨4, _, _, ent_4 (by decide), rfl, rfl⟩ (gV wd_455 wd_456 wd_457 wd_65 wd_458) ev_X4_numbered ⟨rfl, rfl⟩ ⟨Nat.le_of_ble_eq_true rfl, Nat.le_of_ble_eq_true rfl⟩ hl.1 rfl (Nat.le_of_ble_eq_true rfl) dX5_meet_46 (fun H locs hP hD hS => ?_)
        refine nq_astore_n (lv' := [(3, va_re ad r46), (0, .ref (ad 0)), (1, .int x1), (2, .int x2)]) hx hb dX5_meet_49 rfl hl (by decide) rfl (fun ls hl => ?_)
        refine lv_aload_n hx hb dX5_meet_50 rfl (lv_at hl 1 rfl) ?_
        refine gf_5_1 C hP (iL (by decide)) (by decide) wd_375 dX5_meet_51 ?_
        refine lv_iload_n hx hb dX5_meet_54 rfl (lv_at hl 3 rfl) ?_
        obtain ⟨r55, g55, h⟩ := bd_of h
        refine call_qV (As := [.int x2]) (rest := []) C hP hD hS (c_X4_numbered (by decide) g55) (iL (by decide)) ⟨4, _, _, ent_4 (by decide), rfl, rfl⟩ (gV wd_455 wd_456 wd_457 wd_65 wd_458) ev_X4_numbered ⟨rfl, rfl⟩ ⟨Nat.le_of_ble_eq_true rfl, Nat.le_of_ble_eq_true rfl⟩ hl.1 rfl (Nat.le_of_ble_eq_true rfl) dX5_meet_55 (fun H locs hP hD hS => ?_)
        refine nq_astore (lv' := [(4, va_re ad r55), (3, va_re ad r46), (0, .ref (ad 0)), (1, .int x1), (2, .int x2)]) hx hb dX5_meet_58 hl (by decide) (by simp [va_re_cat]) (fun ls hl => ?_)
        refine nq_aload_n hx hb dX5_meet_60 rfl (lv_at hl 1 rfl) ?_
        cases r46 with
        | none =>
          replace h := oc_n h
          have hl : lv_has ls 6 [(4, va_re ad r55), (3, .null), (0, .ref (ad 0)), (1, .int x1), (2, .int x2)] := hl
          refine W.eq (g2 := F0 m 61 ls [.null]) rfl ?_
          refine lv_ifnullN (tgt := 69) hx hb dX5_meet_61 (by decide) ?_
          refine lv_bipush (v := -5) hx hb dX5_meet_69 (by decide) ?_
          exact rt_i (r := (-5 : Int32)) C hP hD hS dX5_meet_71 (rw_end h)
        | some j61 =>
          replace h := oc_s h
          have hl : lv_has ls 6 [(4, va_re ad r55), (3, .ref (ad j61)), (0, .ref (ad 0)), (1, .int x1), (2, .int x2)] := hl
          refine W.eq (g2 := F0 m 61 ls [.ref (ad j61)]) rfl ?_
          refine lv_ifnull hx hb dX5_meet_61 ?_
          refine nq_aload hx hb dX5_meet_64 (lv_at hl 0 rfl) ?_
          cases r55 with
          | none =>
            replace h := oc_n h
            have hl : lv_has ls 6 [(4, .null), (3, .ref (ad j61)), (0, .ref (ad 0)), (1, .int x1), (2, .int x2)] := hl
            refine W.eq (g2 := F0 m 66 ls [.null]) rfl ?_
            refine lv_ifnonnullN hx hb dX5_meet_66 ?_
            refine lv_bipush (v := -5) hx hb dX5_meet_69 (by decide) ?_
            exact rt_i (r := (-5 : Int32)) C hP hD hS dX5_meet_71 (rw_end h)
          | some j66 =>
            replace h := oc_s h
            have hl : lv_has ls 6 [(4, .ref (ad j66)), (3, .ref (ad j61)), (0, .ref (ad 0)), (1, .int x1), (2, .int x2)] := hl
            refine W.eq (g2 := F0 m 66 ls [.ref (ad j66)]) rfl ?_
            refine lv_ifnonnull (tgt := 72) hx hb dX5_meet_66 (by decide) ?_
            refine lv_iconst (v := 0) hx hb dX5_meet_72 (by decide) ?_
            refine lv_istore (lv' := [(5, .int (0 : Int32)), (4, .ref (ad j66)), (3, .ref (ad j61)), (0, .ref (ad 0)), (1, .int x1), (2, .int x2)]) hx hb dX5_meet_73 hl (by decide) rfl (fun ls hl => ?_)
            exact w_X5_meet_75 C N _ _ _ _ _ _ hP hD hS _ (lv_sub hl [3, 2, 1, 0] rfl) h
def f_X5_meet (N : Nat) (x1 : Int32) (x2 : Int32) (M : Mem) : Option (Int32 × Mem) := b_X5_meet_0 N x1 x2 M
theorem c_X5_meet {l : Launch} {D : va_G} {cy : Nat → ClassId} {ad : Nat → Nat} {zz : (Nat → Nat) × (Nat → Nat)} {N : Nat} {x1 : Int32} {x2 : Int32} {M : Mem} {rr : Int32} {M' : Mem} (h : f_X5_meet N x1 x2 M = some (rr, M')) : CTi l D cy ad zz 0 82 yX5_meet (.code yX5_meet cX5_meet 6 (some .int) :: tb) ({ frames := 6, cells := 0, slots := 0, locals := 143 } : Room) [.ref (ad 0), .int x1, .int x2] M rr M' := by
  intro sz
  refine CX.of (by decide +kernel) (fun p e s m args below meth c H ls C hP hD hS hl => ?_) (Nat.le_of_ble_eq_true rfl)
  exact w_X5_meet_0 C hP hD hS hl h
theorem ev_X5_meet : yX5_meet.cls = RX5 ∧ yX5_meet.cls ≠ "java/lang/invoke/MethodHandle" ∧ yX5_meet.cls ≠ "java/lang/invoke/VarHandle" ∧ (parseMethodDescriptor yX5_meet.desc).map (fun d => d.parameters.length) = some 2 := by decide +kernel
def b_X5_alikeOnEnd_2 (N : Nat) (M : Mem) (j0 : Nat) (j1 : Nat) : Nat → Int32 → Option (Int32)
  | 0, _ => none
  | fu + 1, x2 => (if (240 : Int32) ≤ x2 then some (240 : Int32) else (f_X2_stitchRound j0 ((FI M j0 4) + x2) M).bind fun r16 => (f_X2_stitchRound j1 ((FI M j1 4) + x2) M).bind fun r26 => (if r16 = r26 then b_X5_alikeOnEnd_2 N M j0 j1 fu (x2 + (1 : Int32)) else some x2))
set_option maxHeartbeats 4000000 in
set_option maxRecDepth 100000 in
theorem w_X5_alikeOnEnd_2 (C : CX p s m args meth c cX5_alikeOnEnd 3 (some .int) RX5 D cy ad zz 0 82 A) {N : Nat} {M : Mem} {j0 : Nat} (hk_j0 : kd j0 = 2) {j1 : Nat} (hk_j1 : kd j1 = 2) {rr : Int32}  : ∀ (fu : Nat), ∀ (x2 : Int32), ∀ (H : Heap) (locs : List Loc), va_P D vwCl (pool cy ad 0 82 M) H → va_D A (pool cy ad 0 82 M) → va_S A s.heap H locs → ∀ (ls : Array Slot), lv_has ls 3 [(0, .ref (ad j0)), (1, .ref (ad j1)), (2, .int x2)] → b_X5_alikeOnEnd_2 N M j0 j1 fu x2 = some rr → W p l e ({ frames := 2, cells := 0, slots := 0, locals := 42 } : Room) s m args below meth c H locs 0 0 (MQ below (va_Qi (fun (x : Int32) (_ : Unit) => x = rr) (fun _ t => PA D cy ad 0 82 A M t) A) args s 0 0 A) (F0 m 2 ls []) := by
  obtain ⟨hx, hb, hml, hown, hts, hr, hlk, hK, hN, hA, hX⟩ := id C
  intro fu
  induction fu with
  | zero =>
    intro x2 H locs hP hD hS ls hl h
    exact no_some (show none = some _ from h)
  | succ fu ih =>
    intro x2 H locs hP hD hS ls hl h
    rw [b_X5_alikeOnEnd_2] at h
    refine lv_iload_n hx hb dX5_alikeOnEnd_2 rfl (lv_at hl 2 rfl) ?_
    refine lv_sipush (v := 240) hx hb dX5_alikeOnEnd_3 (by decide) ?_
    refine lv_icmp_ge (tgt := 40) hx hb dX5_alikeOnEnd_6 (by decide) (fun c6 => ?_) (fun c6 => ?_)
    · replace h := it_t c6 h
      refine lv_sipush (v := 240) hx hb dX5_alikeOnEnd_40 (by decide) ?_
      exact rt_i (r := (240 : Int32)) C hP hD hS dX5_alikeOnEnd_43 ⟨Option.some.inj h, rfl⟩
    · replace h := it_f c6 h
      refine lv_aload_n hx hb dX5_alikeOnEnd_9 rfl (lv_at hl 0 rfl) ?_
      refine lv_aload_n hx hb dX5_alikeOnEnd_10 rfl (lv_at hl 0 rfl) ?_
      refine gf_2_4 C hP (p_2 hk_j0) hk_j0 wd_110 dX5_alikeOnEnd_11 ?_
      refine lv_iload_n hx hb dX5_alikeOnEnd_14 rfl (lv_at hl 2 rfl) ?_
      refine lv_iadd hx hb dX5_alikeOnEnd_15 ?_
      obtain ⟨r16, g16, h⟩ := bd_of h
      refine call_iV (As := [.int ((FI M j0 4) + x2)]) (rest := []) C hP hD hS (c_X2_stitchRound hk_j0 g16) (p_2 hk_j0) ⟨2, _, _, ent_2 hk_j0, rfl, rfl⟩ (gV wd_673 wd_674 wd_675 wd_66 wd_676) ev_X2_stitchRound ⟨rfl, rfl⟩ ⟨Nat.le_of_ble_eq_true rfl, Nat.le_of_ble_eq_true rfl⟩ hl.1 rfl (Nat.le_of_ble_eq_true rfl) dX5_alikeOnEnd_16 (fun H locs hP hD hS => ?_)
      refine lv_aload_n hx hb dX5_alikeOnEnd_19 rfl (lv_at hl 1 rfl) ?_
      refine lv_aload_n hx hb dX5_alikeOnEnd_20 rfl (lv_at hl 1 rfl) ?_
      refine gf_2_4 C hP (p_2 hk_j1) hk_j1 wd_110 dX5_alikeOnEnd_21 ?_
      refine lv_iload_n hx hb dX5_alikeOnEnd_24 rfl (lv_at hl 2 rfl) ?_
      refine lv_iadd hx hb dX5_alikeOnEnd_25 ?_
      obtain ⟨r26, g26, h⟩ := bd_of h
      refine call_iV (As := [.int ((FI M j1 4) + x2)]) (rest := [.int r16]) C hP hD hS (c_X2_stitchRound hk_j1 g26) (p_2 hk_j1) ⟨2, _, _, ent_2 hk_j1, rfl, rfl⟩ (gV wd_673 wd_674 wd_675 wd_66 wd_676) ev_X2_stitchRound ⟨rfl, rfl⟩ ⟨Nat.le_of_ble_eq_true rfl, Nat.le_of_ble_eq_true rfl⟩ hl.1 rfl (Nat.le_of_ble_eq_true rfl) dX5_alikeOnEnd_26 (fun H locs hP hD hS => ?_)
      refine lv_icmp_eq (tgt := 34) hx hb dX5_alikeOnEnd_29 (by decide) (fun c29 => ?_) (fun c29 => ?_)
      · replace h := it_t c29 h
        refine lv_iinc (v := (x2 + (1 : Int32))) (lv' := [(2, .int (x2 + (1 : Int32))), (0, .ref (ad j0)), (1, .ref (ad j1))]) hx hb dX5_alikeOnEnd_34 hl (k := 2) rfl rfl (by decide) rfl (fun ls hl => ?_)
        refine lv_goto (tgt := 2) hx hb dX5_alikeOnEnd_37 (by decide) ?_
        exact ih _ _ _ hP hD hS _ (lv_sub hl [1, 2, 0] rfl) h
      · replace h := it_f c29 h
        refine lv_iload_n hx hb dX5_alikeOnEnd_32 rfl (lv_at hl 2 rfl) ?_
        exact rt_i (r := x2) C hP hD hS dX5_alikeOnEnd_33 ⟨Option.some.inj h, rfl⟩
def b_X5_alikeOnEnd_0 (N : Nat) (M : Mem) (j0 : Nat) (j1 : Nat) : Option (Int32) := b_X5_alikeOnEnd_2 N M j0 j1 N (0 : Int32)
set_option maxHeartbeats 4000000 in
set_option maxRecDepth 100000 in
theorem w_X5_alikeOnEnd_0 (C : CX p s m args meth c cX5_alikeOnEnd 3 (some .int) RX5 D cy ad zz 0 82 A) {N : Nat} {M : Mem} {j0 : Nat} (hk_j0 : kd j0 = 2) {j1 : Nat} (hk_j1 : kd j1 = 2) {rr : Int32} {H : Heap} {locs : List Loc} (hP : va_P D vwCl (pool cy ad 0 82 M) H) (hD : va_D A (pool cy ad 0 82 M)) (hS : va_S A s.heap H locs) {ls : Array Slot} (hl : lv_has ls 3 [(0, .ref (ad j0)), (1, .ref (ad j1))]) (h : b_X5_alikeOnEnd_0 N M j0 j1 = some rr) : W p l e ({ frames := 2, cells := 0, slots := 0, locals := 42 } : Room) s m args below meth c H locs 0 0 (MQ below (va_Qi (fun (x : Int32) (_ : Unit) => x = rr) (fun _ t => PA D cy ad 0 82 A M t) A) args s 0 0 A) (F0 m 0 ls []) := by
  obtain ⟨hx, hb, hml, hown, hts, hr, hlk, hK, hN, hA, hX⟩ := id C
  unfold b_X5_alikeOnEnd_0 at h
  refine lv_iconst (v := 0) hx hb dX5_alikeOnEnd_0 (by decide) ?_
  refine lv_istore_n (lv' := [(2, .int (0 : Int32)), (0, .ref (ad j0)), (1, .ref (ad j1))]) hx hb dX5_alikeOnEnd_1 rfl hl (by decide) rfl (fun ls hl => ?_)
  exact w_X5_alikeOnEnd_2 C hk_j0 hk_j1 N _ _ _ hP hD hS _ (lv_sub hl [1, 2, 0] rfl) h
def f_X5_alikeOnEnd (N : Nat) (j0 : Nat) (j1 : Nat) (M : Mem) : Option (Int32) := b_X5_alikeOnEnd_0 N M j0 j1
theorem c_X5_alikeOnEnd {l : Launch} {D : va_G} {cy : Nat → ClassId} {ad : Nat → Nat} {zz : (Nat → Nat) × (Nat → Nat)} {N : Nat} {j0 : Nat} (hk_j0 : kd j0 = 2) {j1 : Nat} (hk_j1 : kd j1 = 2) {M : Mem} {rr : Int32} (h : f_X5_alikeOnEnd N j0 j1 M = some rr) : CTi l D cy ad zz 0 82 yX5_alikeOnEnd (.code yX5_alikeOnEnd cX5_alikeOnEnd 3 (some .int) :: tb) ({ frames := 2, cells := 0, slots := 0, locals := 42 } : Room) [.ref (ad j0), .ref (ad j1)] M rr M := by
  intro sz
  refine CX.of (by decide +kernel) (fun p e s m args below meth c H ls C hP hD hS hl => ?_) (Nat.le_of_ble_eq_true rfl)
  exact w_X5_alikeOnEnd_0 C hk_j0 hk_j1 hP hD hS hl h
theorem es_X5_alikeOnEnd : yX5_alikeOnEnd.cls ≠ "java/lang/invoke/MethodHandle" ∧ yX5_alikeOnEnd.cls ≠ "java/lang/invoke/VarHandle" ∧ (parseMethodDescriptor yX5_alikeOnEnd.desc).map (fun d => d.parameters.length) = some 2 := by decide +kernel
def b_X5_isTurned_2 (N : Nat) (M : Mem) (j0 : Nat) (j1 : Nat) (x2 : Int32) : Nat → Int32 → Option (Bool)
  | 0, _ => none
  | fu + 1, x3 => (if (FI M j0 7) ≤ x3 then some true else (f_X2_stitchAt j0 x3 M).bind fun r12 => (f_X2_stitchRound j1 (x3 + x2) M).bind fun r19 => (if r12 = r19 then b_X5_isTurned_2 N M j0 j1 x2 fu (x3 + (1 : Int32)) else some false))
set_option maxHeartbeats 4000000 in
set_option maxRecDepth 100000 in
theorem w_X5_isTurned_2 (C : CX p s m args meth c cX5_isTurned 4 (some .boolean) RX5 D cy ad zz 0 82 A) {N : Nat} {M : Mem} {j0 : Nat} (hk_j0 : kd j0 = 2) {j1 : Nat} (hk_j1 : kd j1 = 2) {x2 : Int32} {rr : Bool}  : ∀ (fu : Nat), ∀ (x3 : Int32), ∀ (H : Heap) (locs : List Loc), va_P D vwCl (pool cy ad 0 82 M) H → va_D A (pool cy ad 0 82 M) → va_S A s.heap H locs → ∀ (ls : Array Slot), lv_has ls 4 [(0, .ref (ad j0)), (1, .ref (ad j1)), (2, .int x2), (3, .int x3)] → b_X5_isTurned_2 N M j0 j1 x2 fu x3 = some rr → W p l e ({ frames := 2, cells := 0, slots := 0, locals := 42 } : Room) s m args below meth c H locs 0 0 (MQ below (va_Qi (fun (x : Int32) (_ : Unit) => x = b2i rr) (fun _ t => PA D cy ad 0 82 A M t) A) args s 0 0 A) (F0 m 2 ls []) := by
  obtain ⟨hx, hb, hml, hown, hts, hr, hlk, hK, hN, hA, hX⟩ := id C
  intro fu
  induction fu with
  | zero =>
    intro x3 H locs hP hD hS ls hl h
    exact no_some (show none = some _ from h)
  | succ fu ih =>
    intro x3 H locs hP hD hS ls hl h
    rw [b_X5_isTurned_2] at h
    refine lv_iload_n hx hb dX5_isTurned_2 rfl (lv_at hl 3 rfl) ?_
    refine lv_aload_n hx hb dX5_isTurned_3 rfl (lv_at hl 0 rfl) ?_
    refine gf_2_7 C hP (p_2 hk_j0) hk_j0 wd_116 dX5_isTurned_4 ?_
    refine lv_icmp_ge (tgt := 33) hx hb dX5_isTurned_7 (by decide) (fun c7 => ?_) (fun c7 => ?_)
    · replace h := it_t c7 h
      refine lv_iconst (v := 1) hx hb dX5_isTurned_33 (by decide) ?_
      exact rt_z (r := true) C hP hD hS dX5_isTurned_34 ⟨Option.some.inj h, rfl⟩
    · replace h := it_f c7 h
      refine lv_aload_n hx hb dX5_isTurned_10 rfl (lv_at hl 0 rfl) ?_
      refine lv_iload_n hx hb dX5_isTurned_11 rfl (lv_at hl 3 rfl) ?_
      obtain ⟨r12, g12, h⟩ := bd_of h
      refine call_iV (As := [.int x3]) (rest := []) C hP hD hS (c_X2_stitchAt hk_j0 g12) (p_2 hk_j0) ⟨2, _, _, ent_2 hk_j0, rfl, rfl⟩ (gV wd_544 wd_545 wd_546 wd_66 wd_547) ev_X2_stitchAt ⟨rfl, rfl⟩ ⟨Nat.le_of_ble_eq_true rfl, Nat.le_of_ble_eq_true rfl⟩ hl.1 rfl (Nat.le_of_ble_eq_true rfl) dX5_isTurned_12 (fun H locs hP hD hS => ?_)
      refine lv_aload_n hx hb dX5_isTurned_15 rfl (lv_at hl 1 rfl) ?_
      refine lv_iload_n hx hb dX5_isTurned_16 rfl (lv_at hl 3 rfl) ?_
      refine lv_iload_n hx hb dX5_isTurned_17 rfl (lv_at hl 2 rfl) ?_
      refine lv_iadd hx hb dX5_isTurned_18 ?_
      obtain ⟨r19, g19, h⟩ := bd_of h
      refine call_iV (As := [.int (x3 + x2)]) (rest := [.int r12]) C hP hD hS (c_X2_stitchRound hk_j1 g19) (p_2 hk_j1) ⟨2, _, _, ent_2 hk_j1, rfl, rfl⟩ (gV wd_673 wd_674 wd_675 wd_66 wd_676) ev_X2_stitchRound ⟨rfl, rfl⟩ ⟨Nat.le_of_ble_eq_true rfl, Nat.le_of_ble_eq_true rfl⟩ hl.1 rfl (Nat.le_of_ble_eq_true rfl) dX5_isTurned_19 (fun H locs hP hD hS => ?_)
      refine lv_icmp_eq (tgt := 27) hx hb dX5_isTurned_22 (by decide) (fun c22 => ?_) (fun c22 => ?_)
      · replace h := it_t c22 h
        refine lv_iinc (v := (x3 + (1 : Int32))) (lv' := [(3, .int (x3 + (1 : Int32))), (0, .ref (ad j0)), (1, .ref (ad j1)), (2, .int x2)]) hx hb dX5_isTurned_27 hl (k := 3) rfl rfl (by decide) rfl (fun ls hl => ?_)
        refine lv_goto (tgt := 2) hx hb dX5_isTurned_30 (by decide) ?_
        exact ih _ _ _ hP hD hS _ (lv_sub hl [1, 2, 3, 0] rfl) h
      · replace h := it_f c22 h
        refine lv_iconst (v := 0) hx hb dX5_isTurned_25 (by decide) ?_
        exact rt_z (r := false) C hP hD hS dX5_isTurned_26 ⟨Option.some.inj h, rfl⟩
def b_X5_isTurned_0 (N : Nat) (M : Mem) (j0 : Nat) (j1 : Nat) (x2 : Int32) : Option (Bool) := b_X5_isTurned_2 N M j0 j1 x2 N (0 : Int32)
set_option maxHeartbeats 4000000 in
set_option maxRecDepth 100000 in
theorem w_X5_isTurned_0 (C : CX p s m args meth c cX5_isTurned 4 (some .boolean) RX5 D cy ad zz 0 82 A) {N : Nat} {M : Mem} {j0 : Nat} (hk_j0 : kd j0 = 2) {j1 : Nat} (hk_j1 : kd j1 = 2) {x2 : Int32} {rr : Bool} {H : Heap} {locs : List Loc} (hP : va_P D vwCl (pool cy ad 0 82 M) H) (hD : va_D A (pool cy ad 0 82 M)) (hS : va_S A s.heap H locs) {ls : Array Slot} (hl : lv_has ls 4 [(0, .ref (ad j0)), (1, .ref (ad j1)), (2, .int x2)]) (h : b_X5_isTurned_0 N M j0 j1 x2 = some rr) : W p l e ({ frames := 2, cells := 0, slots := 0, locals := 42 } : Room) s m args below meth c H locs 0 0 (MQ below (va_Qi (fun (x : Int32) (_ : Unit) => x = b2i rr) (fun _ t => PA D cy ad 0 82 A M t) A) args s 0 0 A) (F0 m 0 ls []) := by
  obtain ⟨hx, hb, hml, hown, hts, hr, hlk, hK, hN, hA, hX⟩ := id C
  unfold b_X5_isTurned_0 at h
  refine lv_iconst (v := 0) hx hb dX5_isTurned_0 (by decide) ?_
  refine lv_istore_n (lv' := [(3, .int (0 : Int32)), (0, .ref (ad j0)), (1, .ref (ad j1)), (2, .int x2)]) hx hb dX5_isTurned_1 rfl hl (by decide) rfl (fun ls hl => ?_)
  exact w_X5_isTurned_2 C hk_j0 hk_j1 N _ _ _ hP hD hS _ (lv_sub hl [1, 2, 3, 0] rfl) h
def f_X5_isTurned (N : Nat) (j0 : Nat) (j1 : Nat) (x2 : Int32) (M : Mem) : Option (Bool) := b_X5_isTurned_0 N M j0 j1 x2
theorem c_X5_isTurned {l : Launch} {D : va_G} {cy : Nat → ClassId} {ad : Nat → Nat} {zz : (Nat → Nat) × (Nat → Nat)} {N : Nat} {j0 : Nat} (hk_j0 : kd j0 = 2) {j1 : Nat} (hk_j1 : kd j1 = 2) {x2 : Int32} {M : Mem} {rr : Bool} (h : f_X5_isTurned N j0 j1 x2 M = some rr) : CTi l D cy ad zz 0 82 yX5_isTurned (.code yX5_isTurned cX5_isTurned 4 (some .boolean) :: tb) ({ frames := 2, cells := 0, slots := 0, locals := 42 } : Room) [.ref (ad j0), .ref (ad j1), .int x2] M (b2i rr) M := by
  intro sz
  refine CX.of (by decide +kernel) (fun p e s m args below meth c H ls C hP hD hS hl => ?_) (Nat.le_of_ble_eq_true rfl)
  exact w_X5_isTurned_0 C hk_j0 hk_j1 hP hD hS hl h
theorem es_X5_isTurned : yX5_isTurned.cls ≠ "java/lang/invoke/MethodHandle" ∧ yX5_isTurned.cls ≠ "java/lang/invoke/VarHandle" ∧ (parseMethodDescriptor yX5_isTurned.desc).map (fun d => d.parameters.length) = some 3 := by decide +kernel
def b_X5_leastTurn_15 (N : Nat) (M : Mem) (j0 : Nat) (j1 : Nat) : Nat → Int32 → Option (Int32)
  | 0, _ => none
  | fu + 1, x2 => (if (FI M j0 7) ≤ x2 then some (-1 : Int32) else (f_X5_isTurned N j0 j1 x2 M).bind fun r26 => (if r26 = true then some x2 else b_X5_leastTurn_15 N M j0 j1 fu (x2 + (1 : Int32))))
set_option maxHeartbeats 4000000 in
set_option maxRecDepth 100000 in
theorem w_X5_leastTurn_15 (C : CX p s m args meth c cX5_leastTurn 3 (some .int) RX5 D cy ad zz 0 82 A) {N : Nat} {M : Mem} {j0 : Nat} (hk_j0 : kd j0 = 2) {j1 : Nat} (hk_j1 : kd j1 = 2) {rr : Int32}  : ∀ (fu : Nat), ∀ (x2 : Int32), ∀ (H : Heap) (locs : List Loc), va_P D vwCl (pool cy ad 0 82 M) H → va_D A (pool cy ad 0 82 M) → va_S A s.heap H locs → ∀ (ls : Array Slot), lv_has ls 3 [(0, .ref (ad j0)), (1, .ref (ad j1)), (2, .int x2)] → b_X5_leastTurn_15 N M j0 j1 fu x2 = some rr → W p l e ({ frames := 3, cells := 0, slots := 0, locals := 65 } : Room) s m args below meth c H locs 0 0 (MQ below (va_Qi (fun (x : Int32) (_ : Unit) => x = rr) (fun _ t => PA D cy ad 0 82 A M t) A) args s 0 0 A) (F0 m 15 ls []) := by
  obtain ⟨hx, hb, hml, hown, hts, hr, hlk, hK, hN, hA, hX⟩ := id C
  intro fu
  induction fu with
  | zero =>
    intro x2 H locs hP hD hS ls hl h
    exact no_some (show none = some _ from h)
  | succ fu ih =>
    intro x2 H locs hP hD hS ls hl h
    rw [b_X5_leastTurn_15] at h
    refine lv_iload_n hx hb dX5_leastTurn_15 rfl (lv_at hl 2 rfl) ?_
    refine lv_aload_n hx hb dX5_leastTurn_16 rfl (lv_at hl 0 rfl) ?_
    refine gf_2_7 C hP (p_2 hk_j0) hk_j0 wd_116 dX5_leastTurn_17 ?_
    refine lv_icmp_ge (tgt := 40) hx hb dX5_leastTurn_20 (by decide) (fun c20 => ?_) (fun c20 => ?_)
    · replace h := it_t c20 h
      refine lv_iconst (v := -1) hx hb dX5_leastTurn_40 (by decide) ?_
      exact rt_i (r := (-1 : Int32)) C hP hD hS dX5_leastTurn_41 ⟨Option.some.inj h, rfl⟩
    · replace h := it_f c20 h
      refine lv_aload_n hx hb dX5_leastTurn_23 rfl (lv_at hl 0 rfl) ?_
      refine lv_aload_n hx hb dX5_leastTurn_24 rfl (lv_at hl 1 rfl) ?_
      refine lv_iload_n hx hb dX5_leastTurn_25 rfl (lv_at hl 2 rfl) ?_
      obtain ⟨r26, g26, h⟩ := bd_of h
      refine call_iS (As := [.ref (ad j0), .ref (ad j1), .int x2]) (rest := []) C hP hD hS (c_X5_isTurned hk_j0 hk_j1 g26) (gS wd_680 wd_681 wd_64 wd_682) es_X5_isTurned ⟨rfl, rfl⟩ ⟨Nat.le_of_ble_eq_true rfl, Nat.le_of_ble_eq_true rfl⟩ hl.1 rfl (Nat.le_of_ble_eq_true rfl) dX5_leastTurn_26 (fun H locs hP hD hS => ?_)
      refine lv_if_eq (tgt := 34) hx hb dX5_leastTurn_29 (by decide) (fun c29 => ?_) (fun c29 => ?_)
      · replace h := it_f (b2i_n c29) h
        refine lv_iinc (v := (x2 + (1 : Int32))) (lv' := [(2, .int (x2 + (1 : Int32))), (0, .ref (ad j0)), (1, .ref (ad j1))]) hx hb dX5_leastTurn_34 hl (k := 2) rfl rfl (by decide) rfl (fun ls hl => ?_)
        refine lv_goto (tgt := 15) hx hb dX5_leastTurn_37 (by decide) ?_
        exact ih _ _ _ hP hD hS _ (lv_sub hl [1, 2, 0] rfl) h
      · replace h := it_t (b2i_1 c29) h
        refine lv_iload_n hx hb dX5_leastTurn_32 rfl (lv_at hl 2 rfl) ?_
        exact rt_i (r := x2) C hP hD hS dX5_leastTurn_33 ⟨Option.some.inj h, rfl⟩
def b_X5_leastTurn_0 (N : Nat) (M : Mem) (j0 : Nat) (j1 : Nat) : Option (Int32) := (if (FI M j0 7) = (FI M j1 7) then b_X5_leastTurn_15 N M j0 j1 N (0 : Int32) else some (-1 : Int32))
set_option maxHeartbeats 4000000 in
set_option maxRecDepth 100000 in
theorem w_X5_leastTurn_0 (C : CX p s m args meth c cX5_leastTurn 3 (some .int) RX5 D cy ad zz 0 82 A) {N : Nat} {M : Mem} {j0 : Nat} (hk_j0 : kd j0 = 2) {j1 : Nat} (hk_j1 : kd j1 = 2) {rr : Int32} {H : Heap} {locs : List Loc} (hP : va_P D vwCl (pool cy ad 0 82 M) H) (hD : va_D A (pool cy ad 0 82 M)) (hS : va_S A s.heap H locs) {ls : Array Slot} (hl : lv_has ls 3 [(0, .ref (ad j0)), (1, .ref (ad j1))]) (h : b_X5_leastTurn_0 N M j0 j1 = some rr) : W p l e ({ frames := 3, cells := 0, slots := 0, locals := 65 } : Room) s m args below meth c H locs 0 0 (MQ below (va_Qi (fun (x : Int32) (_ : Unit) => x = rr) (fun _ t => PA D cy ad 0 82 A M t) A) args s 0 0 A) (F0 m 0 ls []) := by
  obtain ⟨hx, hb, hml, hown, hts, hr, hlk, hK, hN, hA, hX⟩ := id C
  unfold b_X5_leastTurn_0 at h
  refine lv_aload_n hx hb dX5_leastTurn_0 rfl (lv_at hl 0 rfl) ?_
  refine gf_2_7 C hP (p_2 hk_j0) hk_j0 wd_116 dX5_leastTurn_1 ?_
  refine lv_aload_n hx hb dX5_leastTurn_4 rfl (lv_at hl 1 rfl) ?_
  refine gf_2_7 C hP (p_2 hk_j1) hk_j1 wd_116 dX5_leastTurn_5 ?_
  refine lv_icmp_eq (tgt := 13) hx hb dX5_leastTurn_8 (by decide) (fun c8 => ?_) (fun c8 => ?_)
  · replace h := it_t c8 h
    refine lv_iconst (v := 0) hx hb dX5_leastTurn_13 (by decide) ?_
    refine lv_istore_n (lv' := [(2, .int (0 : Int32)), (0, .ref (ad j0)), (1, .ref (ad j1))]) hx hb dX5_leastTurn_14 rfl hl (by decide) rfl (fun ls hl => ?_)
    exact w_X5_leastTurn_15 C hk_j0 hk_j1 N _ _ _ hP hD hS _ (lv_sub hl [1, 2, 0] rfl) h
  · replace h := it_f c8 h
    refine lv_iconst (v := -1) hx hb dX5_leastTurn_11 (by decide) ?_
    exact rt_i (r := (-1 : Int32)) C hP hD hS dX5_leastTurn_12 ⟨Option.some.inj h, rfl⟩
def f_X5_leastTurn (N : Nat) (j0 : Nat) (j1 : Nat) (M : Mem) : Option (Int32) := b_X5_leastTurn_0 N M j0 j1
theorem c_X5_leastTurn {l : Launch} {D : va_G} {cy : Nat → ClassId} {ad : Nat → Nat} {zz : (Nat → Nat) × (Nat → Nat)} {N : Nat} {j0 : Nat} (hk_j0 : kd j0 = 2) {j1 : Nat} (hk_j1 : kd j1 = 2) {M : Mem} {rr : Int32} (h : f_X5_leastTurn N j0 j1 M = some rr) : CTi l D cy ad zz 0 82 yX5_leastTurn (.code yX5_leastTurn cX5_leastTurn 3 (some .int) :: tb) ({ frames := 3, cells := 0, slots := 0, locals := 65 } : Room) [.ref (ad j0), .ref (ad j1)] M rr M := by
  intro sz
  refine CX.of (by decide +kernel) (fun p e s m args below meth c H ls C hP hD hS hl => ?_) (Nat.le_of_ble_eq_true rfl)
  exact w_X5_leastTurn_0 C hk_j0 hk_j1 hP hD hS hl h
theorem es_X5_leastTurn : yX5_leastTurn.cls ≠ "java/lang/invoke/MethodHandle" ∧ yX5_leastTurn.cls ≠ "java/lang/invoke/VarHandle" ∧ (parseMethodDescriptor yX5_leastTurn.desc).map (fun d => d.parameters.length) = some 2 := by decide +kernel
def b_X5_alike_0 (N : Nat) (M : Mem) (x1 : Int32) (x2 : Int32) (x3 : Int32) : Option (Int32) := (f_X4_numbered 1 x1 M).bind fun r5 => (f_X4_numbered 1 x2 M).bind fun r15 => (oc r5 (some (-5 : Int32)) (fun (j22 : Nat) => (oc r15 (some (-5 : Int32)) (fun (j27 : Nat) => (if x3 = 0 then gd (isK j22 2) (gd (isK j27 2) ((f_X5_alikeOnEnd N j22 j27 M).bind fun r41 => some r41)) else (if x3 = (1 : Int32) then gd (isK j22 2) (gd (isK j27 2) ((f_X5_leastTurn N j22 j27 M).bind fun r54 => some r54)) else some (-7 : Int32)))))))
set_option maxHeartbeats 4000000 in
set_option maxRecDepth 100000 in
theorem w_X5_alike_0 (C : CX p s m args meth c cX5_alike 6 (some .int) RX5 D cy ad zz 0 82 A) {N : Nat} {M : Mem} {x1 : Int32} {x2 : Int32} {x3 : Int32} {rr : Int32} {H : Heap} {locs : List Loc} (hP : va_P D vwCl (pool cy ad 0 82 M) H) (hD : va_D A (pool cy ad 0 82 M)) (hS : va_S A s.heap H locs) {ls : Array Slot} (hl : lv_has ls 6 [(0, .ref (ad 0)), (1, .int x1), (2, .int x2), (3, .int x3)]) (h : b_X5_alike_0 N M x1 x2 x3 = some rr) : W p l e ({ frames := 4, cells := 0, slots := 0, locals := 87 } : Room) s m args below meth c H locs 0 0 (MQ below (va_Qi (fun (x : Int32) (_ : Unit) => x = rr) (fun _ t => PA D cy ad 0 82 A M t) A) args s 0 0 A) (F0 m 0 ls []) := by
  obtain ⟨hx, hb, hml, hown, hts, hr, hlk, hK, hN, hA, hX⟩ := id C
  unfold b_X5_alike_0 at h
  refine lv_aload_n hx hb dX5_alike_0 rfl (lv_at hl 0 rfl) ?_
  refine gf_5_0 C hP (iL (by decide)) (by decide) wd_374 dX5_alike_1 ?_
  refine lv_iload_n hx hb dX5_alike_4 rfl (lv_at hl 1 rfl) ?_
  obtain ⟨r5, g5, h⟩ := bd_of h
  refine call_qV (As := [.int x1]) (rest := []) C hP hD hS (c_X4_numbered (by decide) g5) (iL (by decide)) ⟨4, _, _, ent_4 (by decide), rfl, rfl⟩ (gV wd_455 wd_456 wd_457 wd_65 wd_458) ev_X4_numbered ⟨rfl, rfl⟩ ⟨Nat.le_of_ble_eq_true rfl, Nat.le_of_ble_eq_true rfl⟩ hl.1 rfl (Nat.le_of_ble_eq_true rfl) dX5_alike_5 (fun H locs hP hD hS => ?_)
  refine nq_astore (lv' := [(4, va_re ad r5), (0, .ref (ad 0)), (1, .int x1), (2, .int x2), (3, .int x3)]) hx hb dX5_alike_8 hl (by decide) rfl (fun ls hl => ?_)
  refine lv_aload_n hx hb dX5_alike_10 rfl (lv_at hl 1 rfl) ?_
  refine gf_5_0 C hP (iL (by decide)) (by decide) wd_374 dX5_alike_11 ?_
  refine lv_iload_n hx hb dX5_alike_14 rfl (lv_at hl 3 rfl) ?_
  obtain ⟨r15, g15, h⟩ := bd_of h
  refine call_qV (As := [.int x2]) (rest := []) C hP hD hS (c_X4_numbered (by decide) g15) (iL (by decide)) ⟨4, _, _, ent_4 (by decide), rfl, rfl⟩ (gV wd_455 wd_456 wd_457 wd_65 wd_458) ev_X4_numbered ⟨rfl, rfl⟩ ⟨Nat.le_of_ble_eq_true rfl, Nat.le_of_ble_eq_true rfl⟩ hl.1 rfl (Nat.le_of_ble_eq_true rfl) dX5_alike_15 (fun H locs hP hD hS => ?_)
  refine nq_astore (lv' := [(5, va_re ad r15), (4, va_re ad r5), (0, .ref (ad 0)), (1, .int x1), (2, .int x2), (3, .int x3)]) hx hb dX5_alike_18 hl (by decide) (by simp [va_re_cat]) (fun ls hl => ?_)
  refine nq_aload hx hb dX5_alike_20 (lv_at hl 1 rfl) ?_
  cases r5 with
  | none =>
    replace h := oc_n h
    have hl : lv_has ls 6 [(5, va_re ad r15), (4, .null), (0, .ref (ad 0)), (1, .int x1), (2, .int x2), (3, .int x3)] := hl
    refine W.eq (g2 := F0 m 22 ls [.null]) rfl ?_
    refine lv_ifnullN (tgt := 30) hx hb dX5_alike_22 (by decide) ?_
    refine lv_bipush (v := -5) hx hb dX5_alike_30 (by decide) ?_
    exact rt_i (r := (-5 : Int32)) C hP hD hS dX5_alike_32 ⟨Option.some.inj h, rfl⟩
  | some j22 =>
    replace h := oc_s h
    have hl : lv_has ls 6 [(5, va_re ad r15), (4, .ref (ad j22)), (0, .ref (ad 0)), (1, .int x1), (2, .int x2), (3, .int x3)] := hl
    refine W.eq (g2 := F0 m 22 ls [.ref (ad j22)]) rfl ?_
    refine lv_ifnull hx hb dX5_alike_22 ?_
    refine nq_aload hx hb dX5_alike_25 (lv_at hl 0 rfl) ?_
    cases r15 with
    | none =>
      replace h := oc_n h
      have hl : lv_has ls 6 [(5, .null), (4, .ref (ad j22)), (0, .ref (ad 0)), (1, .int x1), (2, .int x2), (3, .int x3)] := hl
      refine W.eq (g2 := F0 m 27 ls [.null]) rfl ?_
      refine lv_ifnonnullN hx hb dX5_alike_27 ?_
      refine lv_bipush (v := -5) hx hb dX5_alike_30 (by decide) ?_
      exact rt_i (r := (-5 : Int32)) C hP hD hS dX5_alike_32 ⟨Option.some.inj h, rfl⟩
    | some j27 =>
      replace h := oc_s h
      have hl : lv_has ls 6 [(5, .ref (ad j27)), (4, .ref (ad j22)), (0, .ref (ad 0)), (1, .int x1), (2, .int x2), (3, .int x3)] := hl
      refine W.eq (g2 := F0 m 27 ls [.ref (ad j27)]) rfl ?_
      refine lv_ifnonnull (tgt := 33) hx hb dX5_alike_27 (by decide) ?_
      refine lv_iload_n hx hb dX5_alike_33 rfl (lv_at hl 5 rfl) ?_
      refine lv_if_ne (tgt := 45) hx hb dX5_alike_34 (by decide) (fun c34 => ?_) (fun c34 => ?_)
      · replace h := it_f c34 h
        refine lv_iload_n hx hb dX5_alike_45 rfl (lv_at hl 5 rfl) ?_
        refine lv_iconst (v := 1) hx hb dX5_alike_46 (by decide) ?_
        refine lv_icmp_ne (tgt := 60) hx hb dX5_alike_47 (by decide) (fun c47 => ?_) (fun c47 => ?_)
        · replace h := it_f c47 h
          refine lv_bipush (v := -7) hx hb dX5_alike_60 (by decide) ?_
          exact rt_i (r := (-7 : Int32)) C hP hD hS dX5_alike_62 ⟨Option.some.inj h, rfl⟩
        · replace h := it_t c47 h
          refine lv_aload hx hb dX5_alike_50 (lv_at hl 1 rfl) ?_
          refine lv_aload hx hb dX5_alike_52 (lv_at hl 0 rfl) ?_
          obtain ⟨gk1, h⟩ := gd_of h
          obtain ⟨gk2, h⟩ := gd_of h
          obtain ⟨r54, g54, h⟩ := bd_of h
          refine call_iS (As := [.ref (ad j22), .ref (ad j27)]) (rest := []) C hP hD hS (c_X5_leastTurn (isK_of gk1) (isK_of gk2) g54) (gS wd_677 wd_678 wd_64 wd_679) es_X5_leastTurn ⟨rfl, rfl⟩ ⟨Nat.le_of_ble_eq_true rfl, Nat.le_of_ble_eq_true rfl⟩ hl.1 rfl (Nat.le_of_ble_eq_true rfl) dX5_alike_54 (fun H locs hP hD hS => ?_)
          refine lv_goto (tgt := 62) hx hb dX5_alike_57 (by decide) ?_
          exact rt_i (r := r54) C hP hD hS dX5_alike_62 ⟨Option.some.inj h, rfl⟩
      · replace h := it_t c34 h
        refine lv_aload hx hb dX5_alike_37 (lv_at hl 1 rfl) ?_
        refine lv_aload hx hb dX5_alike_39 (lv_at hl 0 rfl) ?_
        obtain ⟨gk3, h⟩ := gd_of h
        obtain ⟨gk4, h⟩ := gd_of h
        obtain ⟨r41, g41, h⟩ := bd_of h
        refine call_iS (As := [.ref (ad j22), .ref (ad j27)]) (rest := []) C hP hD hS (c_X5_alikeOnEnd (isK_of gk3) (isK_of gk4) g41) (gS wd_670 wd_671 wd_64 wd_672) es_X5_alikeOnEnd ⟨rfl, rfl⟩ ⟨Nat.le_of_ble_eq_true rfl, Nat.le_of_ble_eq_true rfl⟩ hl.1 rfl (Nat.le_of_ble_eq_true rfl) dX5_alike_41 (fun H locs hP hD hS => ?_)
        exact rt_i (r := r41) C hP hD hS dX5_alike_44 ⟨Option.some.inj h, rfl⟩
def f_X5_alike (N : Nat) (x1 : Int32) (x2 : Int32) (x3 : Int32) (M : Mem) : Option (Int32) := b_X5_alike_0 N M x1 x2 x3
theorem c_X5_alike {l : Launch} {D : va_G} {cy : Nat → ClassId} {ad : Nat → Nat} {zz : (Nat → Nat) × (Nat → Nat)} {N : Nat} {x1 : Int32} {x2 : Int32} {x3 : Int32} {M : Mem} {rr : Int32} (h : f_X5_alike N x1 x2 x3 M = some rr) : CTi l D cy ad zz 0 82 yX5_alike (.code yX5_alike cX5_alike 6 (some .int) :: tb) ({ frames := 4, cells := 0, slots := 0, locals := 87 } : Room) [.ref (ad 0), .int x1, .int x2, .int x3] M rr M := by
  intro sz
  refine CX.of (by decide +kernel) (fun p e s m args below meth c H ls C hP hD hS hl => ?_) (Nat.le_of_ble_eq_true rfl)
  exact w_X5_alike_0 C hP hD hS hl h
theorem ev_X5_alike : yX5_alike.cls = RX5 ∧ yX5_alike.cls ≠ "java/lang/invoke/MethodHandle" ∧ yX5_alike.cls ≠ "java/lang/invoke/VarHandle" ∧ (parseMethodDescriptor yX5_alike.desc).map (fun d => d.parameters.length) = some 3 := by decide +kernel
def b_X5_far_0 (M : Mem) (x0 : Int32) (x1 : Int32) : Option (Int32) := some ((if 0 ≤ ((x0 - x0 / (8 : Int32) * (8 : Int32)) - (x1 - x1 / (8 : Int32) * (8 : Int32))) then ((x0 - x0 / (8 : Int32) * (8 : Int32)) - (x1 - x1 / (8 : Int32) * (8 : Int32))) else 0 - ((x0 - x0 / (8 : Int32) * (8 : Int32)) - (x1 - x1 / (8 : Int32) * (8 : Int32)))) + (if 0 ≤ ((x0 / (8 : Int32)) - (x1 / (8 : Int32))) then ((x0 / (8 : Int32)) - (x1 / (8 : Int32))) else 0 - ((x0 / (8 : Int32)) - (x1 / (8 : Int32)))))
set_option maxHeartbeats 4000000 in
set_option maxRecDepth 100000 in
theorem w_X5_far_0 (C : CX p s m args meth c cX5_far 2 (some .int) RX5 D cy ad zz 0 82 A) {M : Mem} {x0 : Int32} {x1 : Int32} {rr : Int32} {H : Heap} {locs : List Loc} (hP : va_P D vwCl (pool cy ad 0 82 M) H) (hD : va_D A (pool cy ad 0 82 M)) (hS : va_S A s.heap H locs) {ls : Array Slot} (hl : lv_has ls 2 [(0, .int x0), (1, .int x1)]) (h : b_X5_far_0 M x0 x1 = some rr) : W p l e ({ frames := 1, cells := 0, slots := 0, locals := 21 } : Room) s m args below meth c H locs 0 0 (MQ below (va_Qi (fun (x : Int32) (_ : Unit) => x = rr) (fun _ t => PA D cy ad 0 82 A M t) A) args s 0 0 A) (F0 m 0 ls []) := by
  obtain ⟨hx, hb, hml, hown, hts, hr, hlk, hK, hN, hA, hX⟩ := id C
  unfold b_X5_far_0 at h
  refine lv_iload_n hx hb dX5_far_0 rfl (lv_at hl 0 rfl) ?_
  refine lv_bipush (v := 8) hx hb dX5_far_1 (by decide) ?_
  refine lv_irem hx hb dX5_far_3 (by decide) ?_
  refine lv_iload_n hx hb dX5_far_4 rfl (lv_at hl 1 rfl) ?_
  refine lv_bipush (v := 8) hx hb dX5_far_5 (by decide) ?_
  refine lv_irem hx hb dX5_far_7 (by decide) ?_
  refine lv_isub hx hb dX5_far_8 ?_
  refine va_mabs hx hb (hml.trans hl.1.symm) hown (hts _ wd_694) (hts _ wd_695) (hts _ wd_70) (hts _ wd_696) (Nat.le_of_ble_eq_true rfl) (Nat.le_of_ble_eq_true rfl) (Nat.zero_le _) (Nat.zero_le _) dX5_far_9 ?_
  refine lv_iload_n hx hb dX5_far_12 rfl (lv_at hl 0 rfl) ?_
  refine lv_bipush (v := 8) hx hb dX5_far_13 (by decide) ?_
  refine lv_idiv hx hb dX5_far_15 (by decide) ?_
  refine lv_iload_n hx hb dX5_far_16 rfl (lv_at hl 1 rfl) ?_
  refine lv_bipush (v := 8) hx hb dX5_far_17 (by decide) ?_
  refine lv_idiv hx hb dX5_far_19 (by decide) ?_
  refine lv_isub hx hb dX5_far_20 ?_
  refine va_mabs hx hb (hml.trans hl.1.symm) hown (hts _ wd_694) (hts _ wd_695) (hts _ wd_70) (hts _ wd_696) (Nat.le_of_ble_eq_true rfl) (Nat.le_of_ble_eq_true rfl) (Nat.zero_le _) (Nat.zero_le _) dX5_far_21 ?_
  refine lv_iadd hx hb dX5_far_24 ?_
  exact rt_i (r := ((if 0 ≤ ((x0 - x0 / (8 : Int32) * (8 : Int32)) - (x1 - x1 / (8 : Int32) * (8 : Int32))) then ((x0 - x0 / (8 : Int32) * (8 : Int32)) - (x1 - x1 / (8 : Int32) * (8 : Int32))) else 0 - ((x0 - x0 / (8 : Int32) * (8 : Int32)) - (x1 - x1 / (8 : Int32) * (8 : Int32)))) + (if 0 ≤ ((x0 / (8 : Int32)) - (x1 / (8 : Int32))) then ((x0 / (8 : Int32)) - (x1 / (8 : Int32))) else 0 - ((x0 / (8 : Int32)) - (x1 / (8 : Int32)))))) C hP hD hS dX5_far_25 ⟨Option.some.inj h, rfl⟩
def f_X5_far (x0 : Int32) (x1 : Int32) (M : Mem) : Option (Int32) := b_X5_far_0 M x0 x1
theorem c_X5_far {l : Launch} {D : va_G} {cy : Nat → ClassId} {ad : Nat → Nat} {zz : (Nat → Nat) × (Nat → Nat)} {x0 : Int32} {x1 : Int32} {M : Mem} {rr : Int32} (h : f_X5_far x0 x1 M = some rr) : CTi l D cy ad zz 0 82 yX5_far (.code yX5_far cX5_far 2 (some .int) :: tb) ({ frames := 1, cells := 0, slots := 0, locals := 21 } : Room) [.int x0, .int x1] M rr M := by
  intro sz
  refine CX.of (by decide +kernel) (fun p e s m args below meth c H ls C hP hD hS hl => ?_) (Nat.le_of_ble_eq_true rfl)
  exact w_X5_far_0 C hP hD hS hl h
theorem es_X5_far : yX5_far.cls ≠ "java/lang/invoke/MethodHandle" ∧ yX5_far.cls ≠ "java/lang/invoke/VarHandle" ∧ (parseMethodDescriptor yX5_far.desc).map (fun d => d.parameters.length) = some 2 := by decide +kernel
def b_X5_farBehind_0 (N : Nat) (x1 : Int32) (x2 : Int32) (x3 : Int32) (x4 : Int32) (x5 : Int32) (M : Mem) : Option (Int32 × Mem) := bd2 (f_X5_beginThought x1 M) fun r2 M2 => (f_X2_mend 4 x2 x3 M2).bind fun M12 => (f_X5_walkNights N x5 M12).bind fun M18 => (f_X5_far (FI M18 4 2) x4 M18).bind fun r30 => some (r30, M18)
set_option maxHeartbeats 4000000 in
set_option maxRecDepth 100000 in
theorem w_X5_farBehind_0 (C : CX p s m args meth c cX5_farBehind 6 (some .int) RX5 D cy ad zz 0 82 A) {N : Nat} {M : Mem} {x1 : Int32} {x2 : Int32} {x3 : Int32} {x4 : Int32} {x5 : Int32} {rr : Int32} {M' : Mem} {H : Heap} {locs : List Loc} (hP : va_P D vwCl (pool cy ad 0 82 M) H) (hD : va_D A (pool cy ad 0 82 M)) (hS : va_S A s.heap H locs) {ls : Array Slot} (hl : lv_has ls 6 [(0, .ref (ad 0)), (1, .int x1), (2, .int x2), (3, .int x3), (4, .int x4), (5, .int x5)]) (h : b_X5_farBehind_0 N x1 x2 x3 x4 x5 M = some (rr, M')) : W p l e ({ frames := 6, cells := 0, slots := 0, locals := 142 } : Room) s m args below meth c H locs 0 0 (MQ below (va_Qi (fun (x : Int32) (_ : Unit) => x = rr) (fun _ t => PA D cy ad 0 82 A M' t) A) args s 0 0 A) (F0 m 0 ls []) := by
  obtain ⟨hx, hb, hml, hown, hts, hr, hlk, hK, hN, hA, hX⟩ := id C
  unfold b_X5_farBehind_0 at h
  refine lv_aload_n hx hb dX5_farBehind_0 rfl (lv_at hl 0 rfl) ?_
  refine lv_iload_n hx hb dX5_farBehind_1 rfl (lv_at hl 1 rfl) ?_
  obtain ⟨r2, M2, g2, h⟩ := bd2_of h
  refine call_iV (As := [.int x1]) (rest := []) C hP hD hS (c_X5_beginThought g2) (iL (by decide)) ⟨5, _, _, ent_5 (by decide), rfl, rfl⟩ (gV wd_648 wd_650 wd_21 wd_64 wd_651) ev_X5_beginThought ⟨rfl, rfl⟩ ⟨Nat.le_of_ble_eq_true rfl, Nat.le_of_ble_eq_true rfl⟩ hl.1 rfl (Nat.le_of_ble_eq_true rfl) dX5_farBehind_2 (fun H locs hP hD hS => ?_)
  refine lv_pop hx hb dX5_farBehind_5 rfl ?_
  refine lv_aload_n hx hb dX5_farBehind_6 rfl (lv_at hl 0 rfl) ?_
  refine gf_5_3 C hP (iL (by decide)) (by decide) wd_377 dX5_farBehind_7 ?_
  refine lv_iload_n hx hb dX5_farBehind_10 rfl (lv_at hl 2 rfl) ?_
  refine lv_iload_n hx hb dX5_farBehind_11 rfl (lv_at hl 3 rfl) ?_
  obtain ⟨M12, g12, h⟩ := bd_of h
  refine call_vV (As := [.int x2, .int x3]) (rest := []) C hP hD hS (c_X2_mend (by decide) g12) (iL (by decide)) ⟨2, _, _, ent_2 (by decide), rfl, rfl⟩ (gV wd_584 wd_577 wd_578 wd_66 wd_579) ev_X2_mend ⟨rfl, rfl⟩ ⟨Nat.le_of_ble_eq_true rfl, Nat.le_of_ble_eq_true rfl⟩ hl.1 rfl (Nat.le_of_ble_eq_true rfl) dX5_farBehind_12 (fun H locs hP hD hS => ?_)
  refine lv_aload_n hx hb dX5_farBehind_15 rfl (lv_at hl 0 rfl) ?_
  refine lv_iload hx hb dX5_farBehind_16 (lv_at hl 5 rfl) ?_
  obtain ⟨M18, g18, h⟩ := bd_of h
  refine call_vV (As := [.int x5]) (rest := []) C hP hD hS (c_X5_walkNights g18) (iL (by decide)) ⟨5, _, _, ent_5 (by decide), rfl, rfl⟩ (gV wd_653 wd_655 wd_22 wd_64 wd_656) ev_X5_walkNights ⟨rfl, rfl⟩ ⟨Nat.le_of_ble_eq_true rfl, Nat.le_of_ble_eq_true rfl⟩ hl.1 rfl (Nat.le_of_ble_eq_true rfl) dX5_farBehind_18 (fun H locs hP hD hS => ?_)
  refine lv_aload_n hx hb dX5_farBehind_21 rfl (lv_at hl 0 rfl) ?_
  refine gf_5_3 C hP (iL (by decide)) (by decide) wd_377 dX5_farBehind_22 ?_
  refine gf_2_2 C hP (iL (by decide)) (by decide) wd_106 dX5_farBehind_25 ?_
  refine lv_iload hx hb dX5_farBehind_28 (lv_at hl 4 rfl) ?_
  obtain ⟨r30, g30, h⟩ := bd_of h
  refine call_iS (As := [.int (FI M18 4 2), .int x4]) (rest := []) C hP hD hS (c_X5_far g30) (gS wd_691 wd_692 wd_64 wd_693) es_X5_far ⟨rfl, rfl⟩ ⟨Nat.le_of_ble_eq_true rfl, Nat.le_of_ble_eq_true rfl⟩ hl.1 rfl (Nat.le_of_ble_eq_true rfl) dX5_farBehind_30 (fun H locs hP hD hS => ?_)
  exact rt_i (r := r30) C hP hD hS dX5_farBehind_33 (rw_end h)
def f_X5_farBehind (N : Nat) (x1 : Int32) (x2 : Int32) (x3 : Int32) (x4 : Int32) (x5 : Int32) (M : Mem) : Option (Int32 × Mem) := b_X5_farBehind_0 N x1 x2 x3 x4 x5 M
theorem c_X5_farBehind {l : Launch} {D : va_G} {cy : Nat → ClassId} {ad : Nat → Nat} {zz : (Nat → Nat) × (Nat → Nat)} {N : Nat} {x1 : Int32} {x2 : Int32} {x3 : Int32} {x4 : Int32} {x5 : Int32} {M : Mem} {rr : Int32} {M' : Mem} (h : f_X5_farBehind N x1 x2 x3 x4 x5 M = some (rr, M')) : CTi l D cy ad zz 0 82 yX5_farBehind (.code yX5_farBehind cX5_farBehind 6 (some .int) :: tb) ({ frames := 6, cells := 0, slots := 0, locals := 142 } : Room) [.ref (ad 0), .int x1, .int x2, .int x3, .int x4, .int x5] M rr M' := by
  intro sz
  refine CX.of (by decide +kernel) (fun p e s m args below meth c H ls C hP hD hS hl => ?_) (Nat.le_of_ble_eq_true rfl)
  exact w_X5_farBehind_0 C hP hD hS hl h
theorem ev_X5_farBehind : yX5_farBehind.cls = RX5 ∧ yX5_farBehind.cls ≠ "java/lang/invoke/MethodHandle" ∧ yX5_farBehind.cls ≠ "java/lang/invoke/VarHandle" ∧ (parseMethodDescriptor yX5_farBehind.desc).map (fun d => d.parameters.length) = some 5 := by decide +kernel
def b_X5_anew_119 (N : Nat) (x1 : Int32) (x2 : Int32) (x3 : Int32) (x4 : Int32) (k66 : Nat → Int32 → Int32 → Int32 → Mem → Option (Int32 × Mem)) (k79 : Nat → Int32 → Int32 → Int32 → Int32 → Mem → Option (Int32 × Mem)) (j5 : Nat) (x6 : Int32) (x7 : Int32) (x8 : Int32) (x9 : Int32) (M : Mem) : Option (Int32 × Mem) := k79 j5 x6 x7 x8 (x9 + (1 : Int32)) M
set_option maxHeartbeats 4000000 in
set_option maxRecDepth 100000 in
theorem w_X5_anew_119 (C : CX p s m args meth c cX5_anew 11 (some .int) RX5 D cy ad zz 0 82 A) {N : Nat} {M : Mem} {x1 : Int32} {x2 : Int32} {x3 : Int32} {x4 : Int32} {k66 : Nat → Int32 → Int32 → Int32 → Mem → Option (Int32 × Mem)} {k79 : Nat → Int32 → Int32 → Int32 → Int32 → Mem → Option (Int32 × Mem)} {rr : Int32} {M' : Mem} (hk66 : ∀ (j5 : Nat), ∀ (x6 : Int32), ∀ (x7 : Int32), ∀ (x8 : Int32), ∀ (M : Mem), ∀ (H : Heap) (locs : List Loc), va_P D vwCl (pool cy ad 0 82 M) H → va_D A (pool cy ad 0 82 M) → va_S A s.heap H locs → ∀ (ls : Array Slot), lv_has ls 11 [(0, .ref (ad 0)), (1, .int x1), (2, .int x2), (3, .int x3), (4, .int x4), (5, .ref (ad j5)), (6, .int x6), (7, .int x7), (8, .int x8)] → k66 j5 x6 x7 x8 M = some (rr, M') → W p l e ({ frames := 7, cells := 0, slots := 0, locals := 167 } : Room) s m args below meth c H locs 0 0 (MQ below (va_Qi (fun (x : Int32) (_ : Unit) => x = rr) (fun _ t => PA D cy ad 0 82 A M' t) A) args s 0 0 A) (F0 m 66 ls [])) (hk79 : ∀ (j5 : Nat), ∀ (x6 : Int32), ∀ (x7 : Int32), ∀ (x8 : Int32), ∀ (x9 : Int32), kd j5 = 2 → ∀ (M : Mem), ∀ (H : Heap) (locs : List Loc), va_P D vwCl (pool cy ad 0 82 M) H → va_D A (pool cy ad 0 82 M) → va_S A s.heap H locs → ∀ (ls : Array Slot), lv_has ls 11 [(0, .ref (ad 0)), (1, .int x1), (2, .int x2), (3, .int x3), (4, .int x4), (5, .ref (ad j5)), (6, .int x6), (7, .int x7), (8, .int x8), (9, .int x9)] → k79 j5 x6 x7 x8 x9 M = some (rr, M') → W p l e ({ frames := 7, cells := 0, slots := 0, locals := 167 } : Room) s m args below meth c H locs 0 0 (MQ below (va_Qi (fun (x : Int32) (_ : Unit) => x = rr) (fun _ t => PA D cy ad 0 82 A M' t) A) args s 0 0 A) (F0 m 79 ls [])) {j5 : Nat} {x6 : Int32} {x7 : Int32} {x8 : Int32} {x9 : Int32} (hk_j5 : kd j5 = 2) {H : Heap} {locs : List Loc} (hP : va_P D vwCl (pool cy ad 0 82 M) H) (hD : va_D A (pool cy ad 0 82 M)) (hS : va_S A s.heap H locs) {ls : Array Slot} (hl : lv_has ls 11 [(0, .ref (ad 0)), (1, .int x1), (2, .int x2), (3, .int x3), (4, .int x4), (5, .ref (ad j5)), (6, .int x6), (7, .int x7), (8, .int x8), (9, .int x9)]) (h : b_X5_anew_119 N x1 x2 x3 x4 k66 k79 j5 x6 x7 x8 x9 M = some (rr, M')) : W p l e ({ frames := 7, cells := 0, slots := 0, locals := 167 } : Room) s m args below meth c H locs 0 0 (MQ below (va_Qi (fun (x : Int32) (_ : Unit) => x = rr) (fun _ t => PA D cy ad 0 82 A M' t) A) args s 0 0 A) (F0 m 119 ls []) := by
  obtain ⟨hx, hb, hml, hown, hts, hr, hlk, hK, hN, hA, hX⟩ := id C
  unfold b_X5_anew_119 at h
  refine lv_iinc (v := (x9 + (1 : Int32))) (lv' := [(9, .int (x9 + (1 : Int32))), (0, .ref (ad 0)), (1, .int x1), (2, .int x2), (3, .int x3), (4, .int x4), (5, .ref (ad j5)), (6, .int x6), (7, .int x7), (8, .int x8)]) hx hb dX5_anew_119 hl (k := 9) rfl rfl (by decide) rfl (fun ls hl => ?_)
  refine lv_goto (tgt := 79) hx hb dX5_anew_122 (by decide) ?_
  exact hk79 _ _ _ _ _ hk_j5 _ _ _ hP hD hS _ (lv_sub hl [1, 2, 3, 4, 5, 6, 7, 8, 9, 0] rfl) h
def b_X5_anew_79 (N : Nat) (x1 : Int32) (x2 : Int32) (x3 : Int32) (x4 : Int32) (k66 : Nat → Int32 → Int32 → Int32 → Mem → Option (Int32 × Mem)) : Nat → Nat → Int32 → Int32 → Int32 → Int32 → Mem → Option (Int32 × Mem)
  | 0, _, _, _, _, _, _ => none
  | fu + 1, j5, x6, x7, x8, x9, M => (if (5 : Int32) ≤ x9 then k66 j5 x6 x7 (x8 + (1 : Int32)) M else bd2 (f_X5_farBehind N x1 x8 x9 x2 x3 M) fun r93 M93 => (if x6 ≤ r93 then b_X5_anew_119 N x1 x2 x3 x4 k66 (b_X5_anew_79 N x1 x2 x3 x4 k66 fu) j5 x6 x7 x8 x9 M93 else b_X5_anew_119 N x1 x2 x3 x4 k66 (b_X5_anew_79 N x1 x2 x3 x4 k66 fu) j5 r93 (((10 : Int32) * x8) + x9) x8 x9 M93))
set_option maxHeartbeats 4000000 in
set_option maxRecDepth 100000 in
theorem w_X5_anew_79 (C : CX p s m args meth c cX5_anew 11 (some .int) RX5 D cy ad zz 0 82 A) {N : Nat} {x1 : Int32} {x2 : Int32} {x3 : Int32} {x4 : Int32} {k66 : Nat → Int32 → Int32 → Int32 → Mem → Option (Int32 × Mem)} {rr : Int32} {M' : Mem} (hk66 : ∀ (j5 : Nat), ∀ (x6 : Int32), ∀ (x7 : Int32), ∀ (x8 : Int32), ∀ (M : Mem), ∀ (H : Heap) (locs : List Loc), va_P D vwCl (pool cy ad 0 82 M) H → va_D A (pool cy ad 0 82 M) → va_S A s.heap H locs → ∀ (ls : Array Slot), lv_has ls 11 [(0, .ref (ad 0)), (1, .int x1), (2, .int x2), (3, .int x3), (4, .int x4), (5, .ref (ad j5)), (6, .int x6), (7, .int x7), (8, .int x8)] → k66 j5 x6 x7 x8 M = some (rr, M') → W p l e ({ frames := 7, cells := 0, slots := 0, locals := 167 } : Room) s m args below meth c H locs 0 0 (MQ below (va_Qi (fun (x : Int32) (_ : Unit) => x = rr) (fun _ t => PA D cy ad 0 82 A M' t) A) args s 0 0 A) (F0 m 66 ls []))  : ∀ (fu : Nat), ∀ (j5 : Nat), ∀ (x6 : Int32), ∀ (x7 : Int32), ∀ (x8 : Int32), ∀ (x9 : Int32), kd j5 = 2 → ∀ (M : Mem), ∀ (H : Heap) (locs : List Loc), va_P D vwCl (pool cy ad 0 82 M) H → va_D A (pool cy ad 0 82 M) → va_S A s.heap H locs → ∀ (ls : Array Slot), lv_has ls 11 [(0, .ref (ad 0)), (1, .int x1), (2, .int x2), (3, .int x3), (4, .int x4), (5, .ref (ad j5)), (6, .int x6), (7, .int x7), (8, .int x8), (9, .int x9)] → b_X5_anew_79 N x1 x2 x3 x4 k66 fu j5 x6 x7 x8 x9 M = some (rr, M') → W p l e ({ frames := 7, cells := 0, slots := 0, locals := 167 } : Room) s m args below meth c H locs 0 0 (MQ below (va_Qi (fun (x : Int32) (_ : Unit) => x = rr) (fun _ t => PA D cy ad 0 82 A M' t) A) args s 0 0 A) (F0 m 79 ls []) := by
  obtain ⟨hx, hb, hml, hown, hts, hr, hlk, hK, hN, hA, hX⟩ := id C
  intro fu
  induction fu with
  | zero =>
    intro j5 x6 x7 x8 x9 hk_j5 M H locs hP hD hS ls hl h
    exact no_some (show none = some _ from h)
  | succ fu ih =>
    intro j5 x6 x7 x8 x9 hk_j5 M H locs hP hD hS ls hl h
    rw [b_X5_anew_79] at h
    refine lv_iload hx hb dX5_anew_79 (lv_at hl 9 rfl) ?_
    refine lv_iconst (v := 5) hx hb dX5_anew_81 (by decide) ?_
    refine lv_icmp_ge (tgt := 125) hx hb dX5_anew_82 (by decide) (fun c82 => ?_) (fun c82 => ?_)
    · replace h := it_t c82 h
      refine lv_iinc (v := (x8 + (1 : Int32))) (lv' := [(8, .int (x8 + (1 : Int32))), (0, .ref (ad 0)), (1, .int x1), (2, .int x2), (3, .int x3), (4, .int x4), (5, .ref (ad j5)), (6, .int x6), (7, .int x7), (9, .int x9)]) hx hb dX5_anew_125 hl (k := 8) rfl rfl (by decide) rfl (fun ls hl => ?_)
      refine lv_goto (tgt := 66) hx hb dX5_anew_128 (by decide) ?_
      exact hk66 _ _ _ _ _ _ _ hP hD hS _ (lv_sub hl [1, 2, 3, 4, 5, 6, 7, 8, 0] rfl) h
    · replace h := it_f c82 h
      refine lv_aload_n hx hb dX5_anew_85 rfl (lv_at hl 0 rfl) ?_
      refine lv_iload_n hx hb dX5_anew_86 rfl (lv_at hl 1 rfl) ?_
      refine lv_iload hx hb dX5_anew_87 (lv_at hl 8 rfl) ?_
      refine lv_iload hx hb dX5_anew_89 (lv_at hl 9 rfl) ?_
      refine lv_iload_n hx hb dX5_anew_91 rfl (lv_at hl 2 rfl) ?_
      refine lv_iload_n hx hb dX5_anew_92 rfl (lv_at hl 3 rfl) ?_
      obtain ⟨r93, M93, g93, h⟩ := bd2_of h
      refine call_iV (As := [.int x1, .int x8, .int x9, .int x2, .int x3]) (rest := []) C hP hD hS (c_X5_farBehind g93) (iL (by decide)) ⟨5, _, _, ent_5 (by decide), rfl, rfl⟩ (gV wd_687 wd_689 wd_23 wd_64 wd_690) ev_X5_farBehind ⟨rfl, rfl⟩ ⟨Nat.le_of_ble_eq_true rfl, Nat.le_of_ble_eq_true rfl⟩ hl.1 rfl (Nat.le_of_ble_eq_true rfl) dX5_anew_93 (fun H locs hP hD hS => ?_)
      refine lv_istore (lv' := [(10, .int r93), (0, .ref (ad 0)), (1, .int x1), (2, .int x2), (3, .int x3), (4, .int x4), (5, .ref (ad j5)), (6, .int x6), (7, .int x7), (8, .int x8), (9, .int x9)]) hx hb dX5_anew_96 hl (by decide) rfl (fun ls hl => ?_)
      refine lv_iload hx hb dX5_anew_98 (lv_at hl 0 rfl) ?_
      refine lv_iload hx hb dX5_anew_100 (lv_at hl 7 rfl) ?_
      refine lv_icmp_ge (tgt := 119) hx hb dX5_anew_102 (by decide) (fun c102 => ?_) (fun c102 => ?_)
      · replace h := it_t c102 h
        exact w_X5_anew_119 C hk66 ih hk_j5 hP hD hS (lv_sub hl [1, 2, 3, 4, 5, 6, 7, 8, 9, 10] rfl) h
      · replace h := it_f c102 h
        refine lv_iload hx hb dX5_anew_105 (lv_at hl 0 rfl) ?_
        refine lv_istore (lv' := [(6, .int r93), (10, .int r93), (0, .ref (ad 0)), (1, .int x1), (2, .int x2), (3, .int x3), (4, .int x4), (5, .ref (ad j5)), (7, .int x7), (8, .int x8), (9, .int x9)]) hx hb dX5_anew_107 hl (by decide) rfl (fun ls hl => ?_)
        refine lv_bipush (v := 10) hx hb dX5_anew_109 (by decide) ?_
        refine lv_iload hx hb dX5_anew_111 (lv_at hl 9 rfl) ?_
        refine lv_imul hx hb dX5_anew_113 ?_
        refine lv_iload hx hb dX5_anew_114 (lv_at hl 10 rfl) ?_
        refine lv_iadd hx hb dX5_anew_116 ?_
        refine lv_istore (lv' := [(7, .int (((10 : Int32) * x8) + x9)), (6, .int r93), (10, .int r93), (0, .ref (ad 0)), (1, .int x1), (2, .int x2), (3, .int x3), (4, .int x4), (5, .ref (ad j5)), (8, .int x8), (9, .int x9)]) hx hb dX5_anew_117 hl (by decide) rfl (fun ls hl => ?_)
        exact w_X5_anew_119 C hk66 ih hk_j5 hP hD hS (lv_sub hl [3, 4, 5, 6, 7, 8, 1, 0, 9, 10] rfl) h
def b_X5_anew_66 (N : Nat) (x1 : Int32) (x2 : Int32) (x3 : Int32) (x4 : Int32) : Nat → Nat → Int32 → Int32 → Int32 → Mem → Option (Int32 × Mem)
  | 0, _, _, _, _, _ => none
  | fu + 1, j5, x6, x7, x8, M => gd (isK j5 2) ((if (FI M j5 7) ≤ x8 then (if x4 = 0 then some (x7, M) else some (x6, M)) else b_X5_anew_79 N x1 x2 x3 x4 (b_X5_anew_66 N x1 x2 x3 x4 fu) N j5 x6 x7 x8 (0 : Int32) M))
set_option maxHeartbeats 4000000 in
set_option maxRecDepth 100000 in
theorem w_X5_anew_66 (C : CX p s m args meth c cX5_anew 11 (some .int) RX5 D cy ad zz 0 82 A) {N : Nat} {x1 : Int32} {x2 : Int32} {x3 : Int32} {x4 : Int32} {rr : Int32} {M' : Mem}  : ∀ (fu : Nat), ∀ (j5 : Nat), ∀ (x6 : Int32), ∀ (x7 : Int32), ∀ (x8 : Int32), ∀ (M : Mem), ∀ (H : Heap) (locs : List Loc), va_P D vwCl (pool cy ad 0 82 M) H → va_D A (pool cy ad 0 82 M) → va_S A s.heap H locs → ∀ (ls : Array Slot), lv_has ls 11 [(0, .ref (ad 0)), (1, .int x1), (2, .int x2), (3, .int x3), (4, .int x4), (5, .ref (ad j5)), (6, .int x6), (7, .int x7), (8, .int x8)] → b_X5_anew_66 N x1 x2 x3 x4 fu j5 x6 x7 x8 M = some (rr, M') → W p l e ({ frames := 7, cells := 0, slots := 0, locals := 167 } : Room) s m args below meth c H locs 0 0 (MQ below (va_Qi (fun (x : Int32) (_ : Unit) => x = rr) (fun _ t => PA D cy ad 0 82 A M' t) A) args s 0 0 A) (F0 m 66 ls []) := by
  obtain ⟨hx, hb, hml, hown, hts, hr, hlk, hK, hN, hA, hX⟩ := id C
  intro fu
  induction fu with
  | zero =>
    intro j5 x6 x7 x8 M H locs hP hD hS ls hl h
    exact no_some (show none = some _ from h)
  | succ fu ih =>
    intro j5 x6 x7 x8 M H locs hP hD hS ls hl h
    rw [b_X5_anew_66] at h
    refine lv_iload hx hb dX5_anew_66 (lv_at hl 8 rfl) ?_
    refine lv_aload hx hb dX5_anew_68 (lv_at hl 5 rfl) ?_
    obtain ⟨gk1, h⟩ := gd_of h
    refine gf_2_7 C hP (p_2 (isK_of gk1)) (isK_of gk1) wd_116 dX5_anew_70 ?_
    refine lv_icmp_ge (tgt := 131) hx hb dX5_anew_73 (by decide) (fun c73 => ?_) (fun c73 => ?_)
    · replace h := it_t c73 h
      refine lv_iload hx hb dX5_anew_131 (lv_at hl 4 rfl) ?_
      refine lv_if_ne (tgt := 141) hx hb dX5_anew_133 (by decide) (fun c133 => ?_) (fun c133 => ?_)
      · replace h := it_f c133 h
        refine lv_iload hx hb dX5_anew_141 (lv_at hl 6 rfl) ?_
        exact rt_i (r := x6) C hP hD hS dX5_anew_143 (rw_end h)
      · replace h := it_t c133 h
        refine lv_iload hx hb dX5_anew_136 (lv_at hl 7 rfl) ?_
        refine lv_goto (tgt := 143) hx hb dX5_anew_138 (by decide) ?_
        exact rt_i (r := x7) C hP hD hS dX5_anew_143 (rw_end h)
    · replace h := it_f c73 h
      refine lv_iconst (v := 0) hx hb dX5_anew_76 (by decide) ?_
      refine lv_istore (lv' := [(9, .int (0 : Int32)), (0, .ref (ad 0)), (1, .int x1), (2, .int x2), (3, .int x3), (4, .int x4), (5, .ref (ad j5)), (6, .int x6), (7, .int x7), (8, .int x8)]) hx hb dX5_anew_77 hl (by decide) rfl (fun ls hl => ?_)
      exact w_X5_anew_79 C ih N _ _ _ _ _ (isK_of gk1) _ _ _ hP hD hS _ (lv_sub hl [1, 2, 3, 4, 5, 6, 7, 8, 9, 0] rfl) h
def b_X5_anew_49 (N : Nat) (x1 : Int32) (x2 : Int32) (x3 : Int32) (x4 : Int32) (j5 : Nat) (M : Mem) : Option (Int32 × Mem) := bd2 (f_X5_farBehind N x1 (-1 : Int32) (0 : Int32) x2 x3 M) fun r55 M55 => b_X5_anew_66 N x1 x2 x3 x4 N j5 r55 (-1 : Int32) (0 : Int32) M55
set_option maxHeartbeats 4000000 in
set_option maxRecDepth 100000 in
theorem w_X5_anew_49 (C : CX p s m args meth c cX5_anew 11 (some .int) RX5 D cy ad zz 0 82 A) {N : Nat} {M : Mem} {x1 : Int32} {x2 : Int32} {x3 : Int32} {x4 : Int32} {rr : Int32} {M' : Mem} {j5 : Nat} {H : Heap} {locs : List Loc} (hP : va_P D vwCl (pool cy ad 0 82 M) H) (hD : va_D A (pool cy ad 0 82 M)) (hS : va_S A s.heap H locs) {ls : Array Slot} (hl : lv_has ls 11 [(0, .ref (ad 0)), (1, .int x1), (2, .int x2), (3, .int x3), (4, .int x4), (5, .ref (ad j5))]) (h : b_X5_anew_49 N x1 x2 x3 x4 j5 M = some (rr, M')) : W p l e ({ frames := 7, cells := 0, slots := 0, locals := 167 } : Room) s m args below meth c H locs 0 0 (MQ below (va_Qi (fun (x : Int32) (_ : Unit) => x = rr) (fun _ t => PA D cy ad 0 82 A M' t) A) args s 0 0 A) (F0 m 49 ls []) := by
  obtain ⟨hx, hb, hml, hown, hts, hr, hlk, hK, hN, hA, hX⟩ := id C
  unfold b_X5_anew_49 at h
  refine lv_aload_n hx hb dX5_anew_49 rfl (lv_at hl 0 rfl) ?_
  refine lv_iload_n hx hb dX5_anew_50 rfl (lv_at hl 1 rfl) ?_
  refine lv_iconst (v := -1) hx hb dX5_anew_51 (by decide) ?_
  refine lv_iconst (v := 0) hx hb dX5_anew_52 (by decide) ?_
  refine lv_iload_n hx hb dX5_anew_53 rfl (lv_at hl 2 rfl) ?_
  refine lv_iload_n hx hb dX5_anew_54 rfl (lv_at hl 3 rfl) ?_
  obtain ⟨r55, M55, g55, h⟩ := bd2_of h
  refine call_iV (As := [.int x1, .int (-1 : Int32), .int (0 : Int32), .int x2, .int x3]) (rest := []) C hP hD hS (c_X5_farBehind g55) (iL (by decide)) ⟨5, _, _, ent_5 (by decide), rfl, rfl⟩ (gV wd_687 wd_689 wd_23 wd_64 wd_690) ev_X5_farBehind ⟨rfl, rfl⟩ ⟨Nat.le_of_ble_eq_true rfl, Nat.le_of_ble_eq_true rfl⟩ hl.1 rfl (Nat.le_of_ble_eq_true rfl) dX5_anew_55 (fun H locs hP hD hS => ?_)
  refine lv_istore (lv' := [(6, .int r55), (0, .ref (ad 0)), (1, .int x1), (2, .int x2), (3, .int x3), (4, .int x4), (5, .ref (ad j5))]) hx hb dX5_anew_58 hl (by decide) rfl (fun ls hl => ?_)
  refine lv_iconst (v := -1) hx hb dX5_anew_60 (by decide) ?_
  refine lv_istore (lv' := [(7, .int (-1 : Int32)), (6, .int r55), (0, .ref (ad 0)), (1, .int x1), (2, .int x2), (3, .int x3), (4, .int x4), (5, .ref (ad j5))]) hx hb dX5_anew_61 hl (by decide) rfl (fun ls hl => ?_)
  refine lv_iconst (v := 0) hx hb dX5_anew_63 (by decide) ?_
  refine lv_istore (lv' := [(8, .int (0 : Int32)), (7, .int (-1 : Int32)), (6, .int r55), (0, .ref (ad 0)), (1, .int x1), (2, .int x2), (3, .int x3), (4, .int x4), (5, .ref (ad j5))]) hx hb dX5_anew_64 hl (by decide) rfl (fun ls hl => ?_)
  exact w_X5_anew_66 C N _ _ _ _ _ _ _ hP hD hS _ (lv_sub hl [3, 4, 5, 6, 7, 8, 2, 1, 0] rfl) h
def b_X5_anew_0 (N : Nat) (x1 : Int32) (x2 : Int32) (x3 : Int32) (x4 : Int32) (M : Mem) : Option (Int32 × Mem) := (f_X4_numbered 1 x1 M).bind fun r5 => (oc r5 (some ((-5 : Int32), M)) (fun (j12 : Nat) => (f_X5_isCell x2 M).bind fun r19 => (if r19 = true then (if x3 < 0 then some ((-7 : Int32), M) else (if (20 : Int32) < x3 then some ((-7 : Int32), M) else (if x4 = 0 then b_X5_anew_49 N x1 x2 x3 x4 j12 M else (if x4 = (1 : Int32) then b_X5_anew_49 N x1 x2 x3 x4 j12 M else some ((-7 : Int32), M))))) else some ((-7 : Int32), M))))
set_option maxHeartbeats 4000000 in
set_option maxRecDepth 100000 in
theorem w_X5_anew_0 (C : CX p s m args meth c cX5_anew 11 (some .int) RX5 D cy ad zz 0 82 A) {N : Nat} {M : Mem} {x1 : Int32} {x2 : Int32} {x3 : Int32} {x4 : Int32} {rr : Int32} {M' : Mem} {H : Heap} {locs : List Loc} (hP : va_P D vwCl (pool cy ad 0 82 M) H) (hD : va_D A (pool cy ad 0 82 M)) (hS : va_S A s.heap H locs) {ls : Array Slot} (hl : lv_has ls 11 [(0, .ref (ad 0)), (1, .int x1), (2, .int x2), (3, .int x3), (4, .int x4)]) (h : b_X5_anew_0 N x1 x2 x3 x4 M = some (rr, M')) : W p l e ({ frames := 7, cells := 0, slots := 0, locals := 167 } : Room) s m args below meth c H locs 0 0 (MQ below (va_Qi (fun (x : Int32) (_ : Unit) => x = rr) (fun _ t => PA D cy ad 0 82 A M' t) A) args s 0 0 A) (F0 m 0 ls []) := by
  obtain ⟨hx, hb, hml, hown, hts, hr, hlk, hK, hN, hA, hX⟩ := id C
  unfold b_X5_anew_0 at h
  refine lv_aload_n hx hb dX5_anew_0 rfl (lv_at hl 0 rfl) ?_
  refine gf_5_0 C hP (iL (by decide)) (by decide) wd_374 dX5_anew_1 ?_
  refine lv_iload_n hx hb dX5_anew_4 rfl (lv_at hl 1 rfl) ?_
  obtain ⟨r5, g5, h⟩ := bd_of h
  refine call_qV (As := [.int x1]) (rest := []) C hP hD hS (c_X4_numbered (by decide) g5) (iL (by decide)) ⟨4, _, _, ent_4 (by decide), rfl, rfl⟩ (gV wd_455 wd_456 wd_457 wd_65 wd_458) ev_X4_numbered ⟨rfl, rfl⟩ ⟨Nat.le_of_ble_eq_true rfl, Nat.le_of_ble_eq_true rfl⟩ hl.1 rfl (Nat.le_of_ble_eq_true rfl) dX5_anew_5 (fun H locs hP hD hS => ?_)
  refine nq_astore (lv' := [(5, va_re ad r5), (0, .ref (ad 0)), (1, .int x1), (2, .int x2), (3, .int x3), (4, .int x4)]) hx hb dX5_anew_8 hl (by decide) rfl (fun ls hl => ?_)
  refine nq_aload hx hb dX5_anew_10 (lv_at hl 0 rfl) ?_
  cases r5 with
  | none =>
    replace h := oc_n h
    have hl : lv_has ls 11 [(5, .null), (0, .ref (ad 0)), (1, .int x1), (2, .int x2), (3, .int x3), (4, .int x4)] := hl
    refine W.eq (g2 := F0 m 12 ls [.null]) rfl ?_
    refine lv_ifnonnullN hx hb dX5_anew_12 ?_
    refine lv_bipush (v := -5) hx hb dX5_anew_15 (by decide) ?_
    exact rt_i (r := (-5 : Int32)) C hP hD hS dX5_anew_17 (rw_end h)
  | some j12 =>
    replace h := oc_s h
    have hl : lv_has ls 11 [(5, .ref (ad j12)), (0, .ref (ad 0)), (1, .int x1), (2, .int x2), (3, .int x3), (4, .int x4)] := hl
    refine W.eq (g2 := F0 m 12 ls [.ref (ad j12)]) rfl ?_
    refine lv_ifnonnull (tgt := 18) hx hb dX5_anew_12 (by decide) ?_
    refine lv_iload_n hx hb dX5_anew_18 rfl (lv_at hl 3 rfl) ?_
    obtain ⟨r19, g19, h⟩ := bd_of h
    refine call_iS (As := [.int x2]) (rest := []) C hP hD hS (c_X5_isCell g19) (gS wd_426 wd_427 wd_64 wd_428) es_X5_isCell ⟨rfl, rfl⟩ ⟨Nat.le_of_ble_eq_true rfl, Nat.le_of_ble_eq_true rfl⟩ hl.1 rfl (Nat.le_of_ble_eq_true rfl) dX5_anew_19 (fun H locs hP hD hS => ?_)
    refine lv_if_eq (tgt := 46) hx hb dX5_anew_22 (by decide) (fun c22 => ?_) (fun c22 => ?_)
    · replace h := it_f (b2i_n c22) h
      refine lv_bipush (v := -7) hx hb dX5_anew_46 (by decide) ?_
      exact rt_i (r := (-7 : Int32)) C hP hD hS dX5_anew_48 (rw_end h)
    · replace h := it_t (b2i_1 c22) h
      refine lv_iload_n hx hb dX5_anew_25 rfl (lv_at hl 4 rfl) ?_
      refine lv_if_lt (tgt := 46) hx hb dX5_anew_26 (by decide) (fun c26 => ?_) (fun c26 => ?_)
      · replace h := it_t c26 h
        refine lv_bipush (v := -7) hx hb dX5_anew_46 (by decide) ?_
        exact rt_i (r := (-7 : Int32)) C hP hD hS dX5_anew_48 (rw_end h)
      · replace h := it_f c26 h
        refine lv_iload_n hx hb dX5_anew_29 rfl (lv_at hl 4 rfl) ?_
        refine lv_bipush (v := 20) hx hb dX5_anew_30 (by decide) ?_
        refine lv_icmp_gt (tgt := 46) hx hb dX5_anew_32 (by decide) (fun c32 => ?_) (fun c32 => ?_)
        · replace h := it_t c32 h
          refine lv_bipush (v := -7) hx hb dX5_anew_46 (by decide) ?_
          exact rt_i (r := (-7 : Int32)) C hP hD hS dX5_anew_48 (rw_end h)
        · replace h := it_f c32 h
          refine lv_iload hx hb dX5_anew_35 (lv_at hl 5 rfl) ?_
          refine lv_if_eq (tgt := 49) hx hb dX5_anew_37 (by decide) (fun c37 => ?_) (fun c37 => ?_)
          · replace h := it_t c37 h
            exact w_X5_anew_49 C hP hD hS (lv_sub hl [1, 2, 3, 4, 5, 0] rfl) h
          · replace h := it_f c37 h
            refine lv_iload hx hb dX5_anew_40 (lv_at hl 5 rfl) ?_
            refine lv_iconst (v := 1) hx hb dX5_anew_42 (by decide) ?_
            refine lv_icmp_eq (tgt := 49) hx hb dX5_anew_43 (by decide) (fun c43 => ?_) (fun c43 => ?_)
            · replace h := it_t c43 h
              exact w_X5_anew_49 C hP hD hS (lv_sub hl [1, 2, 3, 4, 5, 0] rfl) h
            · replace h := it_f c43 h
              refine lv_bipush (v := -7) hx hb dX5_anew_46 (by decide) ?_
              exact rt_i (r := (-7 : Int32)) C hP hD hS dX5_anew_48 (rw_end h)
def f_X5_anew (N : Nat) (x1 : Int32) (x2 : Int32) (x3 : Int32) (x4 : Int32) (M : Mem) : Option (Int32 × Mem) := b_X5_anew_0 N x1 x2 x3 x4 M
theorem c_X5_anew {l : Launch} {D : va_G} {cy : Nat → ClassId} {ad : Nat → Nat} {zz : (Nat → Nat) × (Nat → Nat)} {N : Nat} {x1 : Int32} {x2 : Int32} {x3 : Int32} {x4 : Int32} {M : Mem} {rr : Int32} {M' : Mem} (h : f_X5_anew N x1 x2 x3 x4 M = some (rr, M')) : CTi l D cy ad zz 0 82 yX5_anew (.code yX5_anew cX5_anew 11 (some .int) :: tb) ({ frames := 7, cells := 0, slots := 0, locals := 167 } : Room) [.ref (ad 0), .int x1, .int x2, .int x3, .int x4] M rr M' := by
  intro sz
  refine CX.of (by decide +kernel) (fun p e s m args below meth c H ls C hP hD hS hl => ?_) (Nat.le_of_ble_eq_true rfl)
  exact w_X5_anew_0 C hP hD hS hl h
theorem ev_X5_anew : yX5_anew.cls = RX5 ∧ yX5_anew.cls ≠ "java/lang/invoke/MethodHandle" ∧ yX5_anew.cls ≠ "java/lang/invoke/VarHandle" ∧ (parseMethodDescriptor yX5_anew.desc).map (fun d => d.parameters.length) = some 4 := by decide +kernel
def b_X5_drain_121 (N : Nat) (x1 : Int32) (x2 : Int32) (k45 : Int32 → Int32 → Int32 → Mem → Option (Int32 × Mem)) (x3 : Int32) (x4 : Int32) (x5 : Int32) (M : Mem) : Option (Int32 × Mem) := k45 x3 x4 (x5 + (1 : Int32)) M
set_option maxHeartbeats 4000000 in
set_option maxRecDepth 100000 in
theorem w_X5_drain_121 (C : CX p s m args meth c cX5_drain 7 (some .int) RX5 D cy ad zz 0 82 A) {N : Nat} {M : Mem} {x1 : Int32} {x2 : Int32} {k45 : Int32 → Int32 → Int32 → Mem → Option (Int32 × Mem)} {rr : Int32} {M' : Mem} (hk45 : ∀ (x3 : Int32), ∀ (x4 : Int32), ∀ (x5 : Int32), ∀ (M : Mem), ∀ (H : Heap) (locs : List Loc), va_P D vwCl (pool cy ad 0 82 M) H → va_D A (pool cy ad 0 82 M) → va_S A s.heap H locs → ∀ (ls : Array Slot), lv_has ls 7 [(0, .ref (ad 0)), (1, .int x1), (2, .int x2), (3, .int x3), (4, .int x4), (5, .int x5)] → k45 x3 x4 x5 M = some (rr, M') → W p l e ({ frames := 7, cells := 0, slots := 0, locals := 166 } : Room) s m args below meth c H locs 0 0 (MQ below (va_Qi (fun (x : Int32) (_ : Unit) => x = rr) (fun _ t => PA D cy ad 0 82 A M' t) A) args s 0 0 A) (F0 m 45 ls [])) {x3 : Int32} {x4 : Int32} {x5 : Int32} {H : Heap} {locs : List Loc} (hP : va_P D vwCl (pool cy ad 0 82 M) H) (hD : va_D A (pool cy ad 0 82 M)) (hS : va_S A s.heap H locs) {ls : Array Slot} (hl : lv_has ls 7 [(0, .ref (ad 0)), (1, .int x1), (2, .int x2), (3, .int x3), (4, .int x4), (5, .int x5)]) (h : b_X5_drain_121 N x1 x2 k45 x3 x4 x5 M = some (rr, M')) : W p l e ({ frames := 7, cells := 0, slots := 0, locals := 166 } : Room) s m args below meth c H locs 0 0 (MQ below (va_Qi (fun (x : Int32) (_ : Unit) => x = rr) (fun _ t => PA D cy ad 0 82 A M' t) A) args s 0 0 A) (F0 m 121 ls []) := by
  obtain ⟨hx, hb, hml, hown, hts, hr, hlk, hK, hN, hA, hX⟩ := id C
  unfold b_X5_drain_121 at h
  refine lv_iinc (v := (x5 + (1 : Int32))) (lv' := [(5, .int (x5 + (1 : Int32))), (0, .ref (ad 0)), (1, .int x1), (2, .int x2), (3, .int x3), (4, .int x4)]) hx hb dX5_drain_121 hl (k := 5) rfl rfl (by decide) rfl (fun ls hl => ?_)
  refine lv_goto (tgt := 45) hx hb dX5_drain_124 (by decide) ?_
  exact hk45 _ _ _ _ _ _ hP hD hS _ (lv_sub hl [1, 2, 3, 4, 5, 0] rfl) h
def b_X5_drain_101 (N : Nat) (x1 : Int32) (x2 : Int32) (k45 : Int32 → Int32 → Int32 → Mem → Option (Int32 × Mem)) (x3 : Int32) (x4 : Int32) (x5 : Int32) (M : Mem) : Option (Int32 × Mem) := bd2 (f_X5_passNights N x1 M) fun r103 M103 => (if r103 ≤ x3 then b_X5_drain_121 N x1 x2 k45 x3 x4 x5 M103 else b_X5_drain_121 N x1 x2 k45 r103 x5 x5 M103)
set_option maxHeartbeats 4000000 in
set_option maxRecDepth 100000 in
theorem w_X5_drain_101 (C : CX p s m args meth c cX5_drain 7 (some .int) RX5 D cy ad zz 0 82 A) {N : Nat} {M : Mem} {x1 : Int32} {x2 : Int32} {k45 : Int32 → Int32 → Int32 → Mem → Option (Int32 × Mem)} {rr : Int32} {M' : Mem} (hk45 : ∀ (x3 : Int32), ∀ (x4 : Int32), ∀ (x5 : Int32), ∀ (M : Mem), ∀ (H : Heap) (locs : List Loc), va_P D vwCl (pool cy ad 0 82 M) H → va_D A (pool cy ad 0 82 M) → va_S A s.heap H locs → ∀ (ls : Array Slot), lv_has ls 7 [(0, .ref (ad 0)), (1, .int x1), (2, .int x2), (3, .int x3), (4, .int x4), (5, .int x5)] → k45 x3 x4 x5 M = some (rr, M') → W p l e ({ frames := 7, cells := 0, slots := 0, locals := 166 } : Room) s m args below meth c H locs 0 0 (MQ below (va_Qi (fun (x : Int32) (_ : Unit) => x = rr) (fun _ t => PA D cy ad 0 82 A M' t) A) args s 0 0 A) (F0 m 45 ls [])) {x3 : Int32} {x4 : Int32} {x5 : Int32} {H : Heap} {locs : List Loc} (hP : va_P D vwCl (pool cy ad 0 82 M) H) (hD : va_D A (pool cy ad 0 82 M)) (hS : va_S A s.heap H locs) {ls : Array Slot} (hl : lv_has ls 7 [(0, .ref (ad 0)), (1, .int x1), (2, .int x2), (3, .int x3), (4, .int x4), (5, .int x5)]) (h : b_X5_drain_101 N x1 x2 k45 x3 x4 x5 M = some (rr, M')) : W p l e ({ frames := 7, cells := 0, slots := 0, locals := 166 } : Room) s m args below meth c H locs 0 0 (MQ below (va_Qi (fun (x : Int32) (_ : Unit) => x = rr) (fun _ t => PA D cy ad 0 82 A M' t) A) args s 0 0 A) (F0 m 101 ls []) := by
  obtain ⟨hx, hb, hml, hown, hts, hr, hlk, hK, hN, hA, hX⟩ := id C
  unfold b_X5_drain_101 at h
  refine lv_aload_n hx hb dX5_drain_101 rfl (lv_at hl 0 rfl) ?_
  refine lv_iload_n hx hb dX5_drain_102 rfl (lv_at hl 1 rfl) ?_
  obtain ⟨r103, M103, g103, h⟩ := bd2_of h
  refine call_iV (As := [.int x1]) (rest := []) C hP hD hS (c_X5_passNights g103) (iL (by decide)) ⟨5, _, _, ent_5 (by decide), rfl, rfl⟩ (gV wd_626 wd_628 wd_19 wd_64 wd_629) ev_X5_passNights ⟨rfl, rfl⟩ ⟨Nat.le_of_ble_eq_true rfl, Nat.le_of_ble_eq_true rfl⟩ hl.1 rfl (Nat.le_of_ble_eq_true rfl) dX5_drain_103 (fun H locs hP hD hS => ?_)
  refine lv_istore (lv' := [(6, .int r103), (0, .ref (ad 0)), (1, .int x1), (2, .int x2), (3, .int x3), (4, .int x4), (5, .int x5)]) hx hb dX5_drain_106 hl (by decide) rfl (fun ls hl => ?_)
  refine lv_iload hx hb dX5_drain_108 (lv_at hl 0 rfl) ?_
  refine lv_iload_n hx hb dX5_drain_110 rfl (lv_at hl 4 rfl) ?_
  refine lv_icmp_le (tgt := 121) hx hb dX5_drain_111 (by decide) (fun c111 => ?_) (fun c111 => ?_)
  · replace h := it_t c111 h
    exact w_X5_drain_121 C hk45 hP hD hS (lv_sub hl [1, 2, 3, 4, 5, 6] rfl) h
  · replace h := it_f c111 h
    refine lv_iload hx hb dX5_drain_114 (lv_at hl 0 rfl) ?_
    refine lv_istore_n (lv' := [(3, .int r103), (6, .int r103), (0, .ref (ad 0)), (1, .int x1), (2, .int x2), (4, .int x4), (5, .int x5)]) hx hb dX5_drain_116 rfl hl (by decide) rfl (fun ls hl => ?_)
    refine lv_iload hx hb dX5_drain_117 (lv_at hl 6 rfl) ?_
    refine lv_istore (lv' := [(4, .int x5), (3, .int r103), (6, .int r103), (0, .ref (ad 0)), (1, .int x1), (2, .int x2), (5, .int x5)]) hx hb dX5_drain_119 hl (by decide) rfl (fun ls hl => ?_)
    exact w_X5_drain_121 C hk45 hP hD hS (lv_sub hl [3, 4, 5, 1, 0, 6] rfl) h
def b_X5_drain_45 (N : Nat) (x1 : Int32) (x2 : Int32) : Nat → Int32 → Int32 → Int32 → Mem → Option (Int32 × Mem)
  | 0, _, _, _, _ => none
  | fu + 1, x3, x4, x5, M => (if (64 : Int32) ≤ x5 then (if x2 = 0 then some (x4, M) else some (x3, M)) else (f_X5_hasWater (FJ M 1 0) x5 M).bind fun r61 => (if r61 = true then (f_X4_becomeAs N 2 1 M).bind fun M78 => b_X5_drain_101 N x1 x2 (b_X5_drain_45 N x1 x2 fu) x3 x4 x5 (sFJ M78 2 0 ((FJ M78 2 0) &&& (((1 : Int64) <<< (x5.toInt64 &&& 63)) ^^^ (-1 : Int64)))) else b_X5_drain_121 N x1 x2 (b_X5_drain_45 N x1 x2 fu) x3 x4 x5 M))
set_option maxHeartbeats 4000000 in
set_option maxRecDepth 100000 in
theorem w_X5_drain_45 (C : CX p s m args meth c cX5_drain 7 (some .int) RX5 D cy ad zz 0 82 A) {N : Nat} {x1 : Int32} {x2 : Int32} {rr : Int32} {M' : Mem}  : ∀ (fu : Nat), ∀ (x3 : Int32), ∀ (x4 : Int32), ∀ (x5 : Int32), ∀ (M : Mem), ∀ (H : Heap) (locs : List Loc), va_P D vwCl (pool cy ad 0 82 M) H → va_D A (pool cy ad 0 82 M) → va_S A s.heap H locs → ∀ (ls : Array Slot), lv_has ls 7 [(0, .ref (ad 0)), (1, .int x1), (2, .int x2), (3, .int x3), (4, .int x4), (5, .int x5)] → b_X5_drain_45 N x1 x2 fu x3 x4 x5 M = some (rr, M') → W p l e ({ frames := 7, cells := 0, slots := 0, locals := 166 } : Room) s m args below meth c H locs 0 0 (MQ below (va_Qi (fun (x : Int32) (_ : Unit) => x = rr) (fun _ t => PA D cy ad 0 82 A M' t) A) args s 0 0 A) (F0 m 45 ls []) := by
  obtain ⟨hx, hb, hml, hown, hts, hr, hlk, hK, hN, hA, hX⟩ := id C
  intro fu
  induction fu with
  | zero =>
    intro x3 x4 x5 M H locs hP hD hS ls hl h
    exact no_some (show none = some _ from h)
  | succ fu ih =>
    intro x3 x4 x5 M H locs hP hD hS ls hl h
    rw [b_X5_drain_45] at h
    refine lv_iload hx hb dX5_drain_45 (lv_at hl 5 rfl) ?_
    refine lv_bipush (v := 64) hx hb dX5_drain_47 (by decide) ?_
    refine lv_icmp_ge (tgt := 127) hx hb dX5_drain_49 (by decide) (fun c49 => ?_) (fun c49 => ?_)
    · replace h := it_t c49 h
      refine lv_iload_n hx hb dX5_drain_127 rfl (lv_at hl 2 rfl) ?_
      refine lv_if_ne (tgt := 136) hx hb dX5_drain_128 (by decide) (fun c128 => ?_) (fun c128 => ?_)
      · replace h := it_f c128 h
        refine lv_iload_n hx hb dX5_drain_136 rfl (lv_at hl 3 rfl) ?_
        exact rt_i (r := x3) C hP hD hS dX5_drain_137 (rw_end h)
      · replace h := it_t c128 h
        refine lv_iload hx hb dX5_drain_131 (lv_at hl 4 rfl) ?_
        refine lv_goto (tgt := 137) hx hb dX5_drain_133 (by decide) ?_
        exact rt_i (r := x4) C hP hD hS dX5_drain_137 (rw_end h)
    · replace h := it_f c49 h
      refine lv_aload_n hx hb dX5_drain_52 rfl (lv_at hl 0 rfl) ?_
      refine gf_5_0 C hP (iL (by decide)) (by decide) wd_374 dX5_drain_53 ?_
      refine gf_4_0 C hP (iL (by decide)) (by decide) wd_143 dX5_drain_56 ?_
      refine lv_iload hx hb dX5_drain_59 (lv_at hl 5 rfl) ?_
      obtain ⟨r61, g61, h⟩ := bd_of h
      refine call_iS (As := [.long (FJ M 1 0), .int x5]) (rest := []) C hP hD hS (c_X5_hasWater g61) (gS wd_429 wd_430 wd_64 wd_431) es_X5_hasWater ⟨rfl, rfl⟩ ⟨Nat.le_of_ble_eq_true rfl, Nat.le_of_ble_eq_true rfl⟩ hl.1 rfl (Nat.le_of_ble_eq_true rfl) dX5_drain_61 (fun H locs hP hD hS => ?_)
      refine lv_if_ne (tgt := 70) hx hb dX5_drain_64 (by decide) (fun c64 => ?_) (fun c64 => ?_)
      · replace h := it_t (b2i_1 c64) h
        refine lv_aload_n hx hb dX5_drain_70 rfl (lv_at hl 0 rfl) ?_
        refine gf_5_1 C hP (iL (by decide)) (by decide) wd_375 dX5_drain_71 ?_
        refine lv_aload_n hx hb dX5_drain_74 rfl (lv_at hl 0 rfl) ?_
        refine gf_5_0 C hP (iL (by decide)) (by decide) wd_374 dX5_drain_75 ?_
        obtain ⟨M78, g78, h⟩ := bd_of h
        refine call_vV (As := [.ref (ad 1)]) (rest := []) C hP hD hS (c_X4_becomeAs (by decide) (by decide) g78) (iL (by decide)) ⟨4, _, _, ent_4 (by decide), rfl, rfl⟩ (gV wd_615 wd_616 wd_617 wd_65 wd_618) ev_X4_becomeAs ⟨rfl, rfl⟩ ⟨Nat.le_of_ble_eq_true rfl, Nat.le_of_ble_eq_true rfl⟩ hl.1 rfl (Nat.le_of_ble_eq_true rfl) dX5_drain_78 (fun H locs hP hD hS => ?_)
        refine lv_aload_n hx hb dX5_drain_81 rfl (lv_at hl 0 rfl) ?_
        refine gf_5_1 C hP (iL (by decide)) (by decide) wd_375 dX5_drain_82 ?_
        refine lv_dup hx hb dX5_drain_85 rfl ?_
        refine gf_4_0 C hP (iL (by decide)) (by decide) wd_143 dX5_drain_86 ?_
        refine lv_lconst (v := 1) hx hb dX5_drain_89 (by decide) ?_
        refine lv_iload hx hb dX5_drain_90 (lv_at hl 5 rfl) ?_
        refine lv_lshl (v := ((1 : Int64) <<< (x5.toInt64 &&& 63))) hx hb dX5_drain_92 rfl ?_
        refine lv_ldc2 hx hb hown (hts _ wd_701) dX5_drain_93 ?_
        refine lv_lxor hx hb dX5_drain_96 ?_
        refine lv_land hx hb dX5_drain_97 ?_
        refine pf_4_0 C hP hD hS (iL (by decide)) (by decide) wd_143 dX5_drain_98 (fun H locs hP hD hS => ?_)
        exact w_X5_drain_101 C ih hP hD hS hl h
      · replace h := it_f (b2i_n c64) h
        refine lv_goto (tgt := 121) hx hb dX5_drain_67 (by decide) ?_
        exact w_X5_drain_121 C ih hP hD hS hl h
def b_X5_drain_22 (N : Nat) (x1 : Int32) (x2 : Int32) (M : Mem) : Option (Int32 × Mem) := (f_X4_becomeAs N 2 1 M).bind fun M30 => bd2 (f_X5_passNights N x1 M30) fun r35 M35 => b_X5_drain_45 N x1 x2 N r35 (-1 : Int32) (0 : Int32) M35
set_option maxHeartbeats 4000000 in
set_option maxRecDepth 100000 in
theorem w_X5_drain_22 (C : CX p s m args meth c cX5_drain 7 (some .int) RX5 D cy ad zz 0 82 A) {N : Nat} {M : Mem} {x1 : Int32} {x2 : Int32} {rr : Int32} {M' : Mem} {H : Heap} {locs : List Loc} (hP : va_P D vwCl (pool cy ad 0 82 M) H) (hD : va_D A (pool cy ad 0 82 M)) (hS : va_S A s.heap H locs) {ls : Array Slot} (hl : lv_has ls 7 [(0, .ref (ad 0)), (1, .int x1), (2, .int x2)]) (h : b_X5_drain_22 N x1 x2 M = some (rr, M')) : W p l e ({ frames := 7, cells := 0, slots := 0, locals := 166 } : Room) s m args below meth c H locs 0 0 (MQ below (va_Qi (fun (x : Int32) (_ : Unit) => x = rr) (fun _ t => PA D cy ad 0 82 A M' t) A) args s 0 0 A) (F0 m 22 ls []) := by
  obtain ⟨hx, hb, hml, hown, hts, hr, hlk, hK, hN, hA, hX⟩ := id C
  unfold b_X5_drain_22 at h
  refine lv_aload_n hx hb dX5_drain_22 rfl (lv_at hl 0 rfl) ?_
  refine gf_5_1 C hP (iL (by decide)) (by decide) wd_375 dX5_drain_23 ?_
  refine lv_aload_n hx hb dX5_drain_26 rfl (lv_at hl 0 rfl) ?_
  refine gf_5_0 C hP (iL (by decide)) (by decide) wd_374 dX5_drain_27 ?_
  obtain ⟨M30, g30, h⟩ := bd_of h
  refine call_vV (As := [.ref (ad 1)]) (rest := []) C hP hD hS (c_X4_becomeAs (by decide) (by decide) g30) (iL (by decide)) ⟨4, _, _, ent_4 (by decide), rfl, rfl⟩ (gV wd_615 wd_616 wd_617 wd_65 wd_618) ev_X4_becomeAs ⟨rfl, rfl⟩ ⟨Nat.le_of_ble_eq_true rfl, Nat.le_of_ble_eq_true rfl⟩ hl.1 rfl (Nat.le_of_ble_eq_true rfl) dX5_drain_30 (fun H locs hP hD hS => ?_)
  refine lv_aload_n hx hb dX5_drain_33 rfl (lv_at hl 0 rfl) ?_
  refine lv_iload_n hx hb dX5_drain_34 rfl (lv_at hl 1 rfl) ?_
  obtain ⟨r35, M35, g35, h⟩ := bd2_of h
  refine call_iV (As := [.int x1]) (rest := []) C hP hD hS (c_X5_passNights g35) (iL (by decide)) ⟨5, _, _, ent_5 (by decide), rfl, rfl⟩ (gV wd_626 wd_628 wd_19 wd_64 wd_629) ev_X5_passNights ⟨rfl, rfl⟩ ⟨Nat.le_of_ble_eq_true rfl, Nat.le_of_ble_eq_true rfl⟩ hl.1 rfl (Nat.le_of_ble_eq_true rfl) dX5_drain_35 (fun H locs hP hD hS => ?_)
  refine lv_istore_n (lv' := [(3, .int r35), (0, .ref (ad 0)), (1, .int x1), (2, .int x2)]) hx hb dX5_drain_38 rfl hl (by decide) rfl (fun ls hl => ?_)
  refine lv_iconst (v := -1) hx hb dX5_drain_39 (by decide) ?_
  refine lv_istore (lv' := [(4, .int (-1 : Int32)), (3, .int r35), (0, .ref (ad 0)), (1, .int x1), (2, .int x2)]) hx hb dX5_drain_40 hl (by decide) rfl (fun ls hl => ?_)
  refine lv_iconst (v := 0) hx hb dX5_drain_42 (by decide) ?_
  refine lv_istore (lv' := [(5, .int (0 : Int32)), (4, .int (-1 : Int32)), (3, .int r35), (0, .ref (ad 0)), (1, .int x1), (2, .int x2)]) hx hb dX5_drain_43 hl (by decide) rfl (fun ls hl => ?_)
  exact w_X5_drain_45 C N _ _ _ _ _ _ hP hD hS _ (lv_sub hl [3, 4, 5, 2, 1, 0] rfl) h
def b_X5_drain_0 (N : Nat) (x1 : Int32) (x2 : Int32) (M : Mem) : Option (Int32 × Mem) := (if x1 < 0 then some ((-2 : Int32), M) else (if (20 : Int32) < x1 then some ((-2 : Int32), M) else (if x2 = 0 then b_X5_drain_22 N x1 x2 M else (if x2 = (1 : Int32) then b_X5_drain_22 N x1 x2 M else some ((-2 : Int32), M)))))
set_option maxHeartbeats 4000000 in
set_option maxRecDepth 100000 in
theorem w_X5_drain_0 (C : CX p s m args meth c cX5_drain 7 (some .int) RX5 D cy ad zz 0 82 A) {N : Nat} {M : Mem} {x1 : Int32} {x2 : Int32} {rr : Int32} {M' : Mem} {H : Heap} {locs : List Loc} (hP : va_P D vwCl (pool cy ad 0 82 M) H) (hD : va_D A (pool cy ad 0 82 M)) (hS : va_S A s.heap H locs) {ls : Array Slot} (hl : lv_has ls 7 [(0, .ref (ad 0)), (1, .int x1), (2, .int x2)]) (h : b_X5_drain_0 N x1 x2 M = some (rr, M')) : W p l e ({ frames := 7, cells := 0, slots := 0, locals := 166 } : Room) s m args below meth c H locs 0 0 (MQ below (va_Qi (fun (x : Int32) (_ : Unit) => x = rr) (fun _ t => PA D cy ad 0 82 A M' t) A) args s 0 0 A) (F0 m 0 ls []) := by
  obtain ⟨hx, hb, hml, hown, hts, hr, hlk, hK, hN, hA, hX⟩ := id C
  unfold b_X5_drain_0 at h
  refine lv_iload_n hx hb dX5_drain_0 rfl (lv_at hl 1 rfl) ?_
  refine lv_if_lt (tgt := 19) hx hb dX5_drain_1 (by decide) (fun c1 => ?_) (fun c1 => ?_)
  · replace h := it_t c1 h
    refine lv_bipush (v := -2) hx hb dX5_drain_19 (by decide) ?_
    exact rt_i (r := (-2 : Int32)) C hP hD hS dX5_drain_21 (rw_end h)
  · replace h := it_f c1 h
    refine lv_iload_n hx hb dX5_drain_4 rfl (lv_at hl 1 rfl) ?_
    refine lv_bipush (v := 20) hx hb dX5_drain_5 (by decide) ?_
    refine lv_icmp_gt (tgt := 19) hx hb dX5_drain_7 (by decide) (fun c7 => ?_) (fun c7 => ?_)
    · replace h := it_t c7 h
      refine lv_bipush (v := -2) hx hb dX5_drain_19 (by decide) ?_
      exact rt_i (r := (-2 : Int32)) C hP hD hS dX5_drain_21 (rw_end h)
    · replace h := it_f c7 h
      refine lv_iload_n hx hb dX5_drain_10 rfl (lv_at hl 2 rfl) ?_
      refine lv_if_eq (tgt := 22) hx hb dX5_drain_11 (by decide) (fun c11 => ?_) (fun c11 => ?_)
      · replace h := it_t c11 h
        exact w_X5_drain_22 C hP hD hS hl h
      · replace h := it_f c11 h
        refine lv_iload_n hx hb dX5_drain_14 rfl (lv_at hl 2 rfl) ?_
        refine lv_iconst (v := 1) hx hb dX5_drain_15 (by decide) ?_
        refine lv_icmp_eq (tgt := 22) hx hb dX5_drain_16 (by decide) (fun c16 => ?_) (fun c16 => ?_)
        · replace h := it_t c16 h
          exact w_X5_drain_22 C hP hD hS hl h
        · replace h := it_f c16 h
          refine lv_bipush (v := -2) hx hb dX5_drain_19 (by decide) ?_
          exact rt_i (r := (-2 : Int32)) C hP hD hS dX5_drain_21 (rw_end h)
def f_X5_drain (N : Nat) (x1 : Int32) (x2 : Int32) (M : Mem) : Option (Int32 × Mem) := b_X5_drain_0 N x1 x2 M
theorem c_X5_drain {l : Launch} {D : va_G} {cy : Nat → ClassId} {ad : Nat → Nat} {zz : (Nat → Nat) × (Nat → Nat)} {N : Nat} {x1 : Int32} {x2 : Int32} {M : Mem} {rr : Int32} {M' : Mem} (h : f_X5_drain N x1 x2 M = some (rr, M')) : CTi l D cy ad zz 0 82 yX5_drain (.code yX5_drain cX5_drain 7 (some .int) :: tb) ({ frames := 7, cells := 0, slots := 0, locals := 166 } : Room) [.ref (ad 0), .int x1, .int x2] M rr M' := by
  intro sz
  refine CX.of (by decide +kernel) (fun p e s m args below meth c H ls C hP hD hS hl => ?_) (Nat.le_of_ble_eq_true rfl)
  exact w_X5_drain_0 C hP hD hS hl h
theorem ev_X5_drain : yX5_drain.cls = RX5 ∧ yX5_drain.cls ≠ "java/lang/invoke/MethodHandle" ∧ yX5_drain.cls ≠ "java/lang/invoke/VarHandle" ∧ (parseMethodDescriptor yX5_drain.desc).map (fun d => d.parameters.length) = some 2 := by decide +kernel
end
