section
variable {p : Program} {l : Launch} {e : Env} {s : State} {m : MethodId} {args : Array Value} {below : List Frame} {meth : Method} {c : Code} {D : va_G} {cy : Nat → ClassId} {ad : Nat → Nat} {zz : (Nat → Nat) × (Nat → Nat)} {A : Nat → Prop}
def b_X5_odds_79 (N : Nat) (x1 : Int32) (x2 : Int32) (x3 : Int32) (x4 : Int32) (k58 : Int32 → Int32 → Mem → Option (Int64 × Mem)) (x5 : Int32) (x6 : Int32) (M : Mem) : Option (Int64 × Mem) := k58 x5 (x6 + (1 : Int32)) M
set_option maxHeartbeats 4000000 in
set_option maxRecDepth 100000 in
theorem w_X5_odds_79 (C : CX p s m args meth c cX5_odds 7 (some .long) RX5 D cy ad zz 0 82 A) {N : Nat} {M : Mem} {x1 : Int32} {x2 : Int32} {x3 : Int32} {x4 : Int32} {k58 : Int32 → Int32 → Mem → Option (Int64 × Mem)} {rr : Int64} {M' : Mem} (hk58 : ∀ (x5 : Int32), ∀ (x6 : Int32), ∀ (M : Mem), ∀ (H : Heap) (locs : List Loc), va_P D vwCl (pool cy ad 0 82 M) H → va_D A (pool cy ad 0 82 M) → va_S A s.heap H locs → ∀ (ls : Array Slot), lv_has ls 7 [(0, .ref (ad 0)), (1, .int x1), (2, .int x2), (3, .int x3), (4, .int x4), (5, .int x5), (6, .int x6)] → k58 x5 x6 M = some (rr, M') → W p l e ({ frames := 7, cells := 0, slots := 0, locals := 168 } : Room) s m args below meth c H locs 0 0 (MQ below (va_Ql (fun (x : Int64) (_ : Unit) => x = rr) (fun _ t => PA D cy ad 0 82 A M' t) A) args s 0 0 A) (F0 m 58 ls [])) {x5 : Int32} {x6 : Int32} {H : Heap} {locs : List Loc} (hP : va_P D vwCl (pool cy ad 0 82 M) H) (hD : va_D A (pool cy ad 0 82 M)) (hS : va_S A s.heap H locs) {ls : Array Slot} (hl : lv_has ls 7 [(0, .ref (ad 0)), (1, .int x1), (2, .int x2), (3, .int x3), (4, .int x4), (5, .int x5), (6, .int x6)]) (h : b_X5_odds_79 N x1 x2 x3 x4 k58 x5 x6 M = some (rr, M')) : W p l e ({ frames := 7, cells := 0, slots := 0, locals := 168 } : Room) s m args below meth c H locs 0 0 (MQ below (va_Ql (fun (x : Int64) (_ : Unit) => x = rr) (fun _ t => PA D cy ad 0 82 A M' t) A) args s 0 0 A) (F0 m 79 ls []) := by
  obtain ⟨hx, hb, hml, hown, hts, hr, hlk, hK, hN, hA, hX⟩ := id C
  unfold b_X5_odds_79 at h
  refine lv_iinc (v := (x6 + (1 : Int32))) (lv' := [(6, .int (x6 + (1 : Int32))), (0, .ref (ad 0)), (1, .int x1), (2, .int x2), (3, .int x3), (4, .int x4), (5, .int x5)]) hx hb dX5_odds_79 hl (k := 6) rfl rfl (by decide) rfl (fun ls hl => ?_)
  refine lv_goto (tgt := 58) hx hb dX5_odds_82 (by decide) ?_
  exact hk58 _ _ _ _ _ hP hD hS _ (lv_sub hl [1, 2, 3, 4, 5, 6, 0] rfl) h
def b_X5_odds_58 (N : Nat) (x1 : Int32) (x2 : Int32) (x3 : Int32) (x4 : Int32) : Nat → Int32 → Int32 → Mem → Option (Int64 × Mem)
  | 0, _, _, _ => none
  | fu + 1, x5, x6, M => (if x2 ≤ x6 then (f_X5_lowest N (x5.toInt64) (x2.toInt64) x4 M).bind fun r92 => some (r92, M) else bd2 (f_X5_passFloods N (x1 + x6) M) fun r69 M69 => (if r69 < x3 then b_X5_odds_79 N x1 x2 x3 x4 (b_X5_odds_58 N x1 x2 x3 x4 fu) x5 x6 M69 else b_X5_odds_79 N x1 x2 x3 x4 (b_X5_odds_58 N x1 x2 x3 x4 fu) (x5 + (1 : Int32)) x6 M69))
set_option maxHeartbeats 4000000 in
set_option maxRecDepth 100000 in
theorem w_X5_odds_58 (C : CX p s m args meth c cX5_odds 7 (some .long) RX5 D cy ad zz 0 82 A) {N : Nat} {x1 : Int32} {x2 : Int32} {x3 : Int32} {x4 : Int32} {rr : Int64} {M' : Mem}  : ∀ (fu : Nat), ∀ (x5 : Int32), ∀ (x6 : Int32), ∀ (M : Mem), ∀ (H : Heap) (locs : List Loc), va_P D vwCl (pool cy ad 0 82 M) H → va_D A (pool cy ad 0 82 M) → va_S A s.heap H locs → ∀ (ls : Array Slot), lv_has ls 7 [(0, .ref (ad 0)), (1, .int x1), (2, .int x2), (3, .int x3), (4, .int x4), (5, .int x5), (6, .int x6)] → b_X5_odds_58 N x1 x2 x3 x4 fu x5 x6 M = some (rr, M') → W p l e ({ frames := 7, cells := 0, slots := 0, locals := 168 } : Room) s m args below meth c H locs 0 0 (MQ below (va_Ql (fun (x : Int64) (_ : Unit) => x = rr) (fun _ t => PA D cy ad 0 82 A M' t) A) args s 0 0 A) (F0 m 58 ls []) := by
  obtain ⟨hx, hb, hml, hown, hts, hr, hlk, hK, hN, hA, hX⟩ := id C
  intro fu
  induction fu with
  | zero =>
    intro x5 x6 M H locs hP hD hS ls hl h
    exact no_some (show none = some _ from h)
  | succ fu ih =>
    intro x5 x6 M H locs hP hD hS ls hl h
    rw [b_X5_odds_58] at h
    refine lv_iload hx hb dX5_odds_58 (lv_at hl 6 rfl) ?_
    refine lv_iload_n hx hb dX5_odds_60 rfl (lv_at hl 2 rfl) ?_
    refine lv_icmp_ge (tgt := 85) hx hb dX5_odds_61 (by decide) (fun c61 => ?_) (fun c61 => ?_)
    · replace h := it_t c61 h
      refine lv_iload hx hb dX5_odds_85 (lv_at hl 5 rfl) ?_
      refine lv_i2l (v := (x5.toInt64)) hx hb dX5_odds_87 rfl ?_
      refine lv_iload_n hx hb dX5_odds_88 rfl (lv_at hl 2 rfl) ?_
      refine lv_i2l (v := (x2.toInt64)) hx hb dX5_odds_89 rfl ?_
      refine lv_iload hx hb dX5_odds_90 (lv_at hl 4 rfl) ?_
      obtain ⟨r92, g92, h⟩ := bd_of h
      refine call_lS (As := [.long (x5.toInt64), .long (x2.toInt64), .int x4]) (rest := []) C hP hD hS (c_X5_lowest g92) (gS wd_711 wd_712 wd_64 wd_713) es_X5_lowest ⟨rfl, rfl⟩ ⟨Nat.le_of_ble_eq_true rfl, Nat.le_of_ble_eq_true rfl⟩ hl.1 rfl (Nat.le_of_ble_eq_true rfl) dX5_odds_92 (fun H locs hP hD hS => ?_)
      exact rt_l (r := r92) C hP hD hS dX5_odds_95 (rw_end h)
    · replace h := it_f c61 h
      refine lv_aload_n hx hb dX5_odds_64 rfl (lv_at hl 0 rfl) ?_
      refine lv_iload_n hx hb dX5_odds_65 rfl (lv_at hl 1 rfl) ?_
      refine lv_iload hx hb dX5_odds_66 (lv_at hl 6 rfl) ?_
      refine lv_iadd hx hb dX5_odds_68 ?_
      obtain ⟨r69, M69, g69, h⟩ := bd2_of h
      refine call_iV (As := [.int (x1 + x6)]) (rest := []) C hP hD hS (c_X5_passFloods g69) (iL (by decide)) ⟨5, _, _, ent_5 (by decide), rfl, rfl⟩ (gV wd_780 wd_782 wd_28 wd_64 wd_783) ev_X5_passFloods ⟨rfl, rfl⟩ ⟨Nat.le_of_ble_eq_true rfl, Nat.le_of_ble_eq_true rfl⟩ hl.1 rfl (Nat.le_of_ble_eq_true rfl) dX5_odds_69 (fun H locs hP hD hS => ?_)
      refine lv_iload_n hx hb dX5_odds_72 rfl (lv_at hl 3 rfl) ?_
      refine lv_icmp_lt (tgt := 79) hx hb dX5_odds_73 (by decide) (fun c73 => ?_) (fun c73 => ?_)
      · replace h := it_t c73 h
        exact w_X5_odds_79 C ih hP hD hS hl h
      · replace h := it_f c73 h
        refine lv_iinc (v := (x5 + (1 : Int32))) (lv' := [(5, .int (x5 + (1 : Int32))), (0, .ref (ad 0)), (1, .int x1), (2, .int x2), (3, .int x3), (4, .int x4), (6, .int x6)]) hx hb dX5_odds_76 hl (k := 5) rfl rfl (by decide) rfl (fun ls hl => ?_)
        exact w_X5_odds_79 C ih hP hD hS (lv_sub hl [1, 2, 3, 4, 5, 0, 6] rfl) h
def b_X5_odds_52 (N : Nat) (x1 : Int32) (x2 : Int32) (x3 : Int32) (x4 : Int32) (M : Mem) : Option (Int64 × Mem) := b_X5_odds_58 N x1 x2 x3 x4 N (0 : Int32) (0 : Int32) M
set_option maxHeartbeats 4000000 in
set_option maxRecDepth 100000 in
theorem w_X5_odds_52 (C : CX p s m args meth c cX5_odds 7 (some .long) RX5 D cy ad zz 0 82 A) {N : Nat} {M : Mem} {x1 : Int32} {x2 : Int32} {x3 : Int32} {x4 : Int32} {rr : Int64} {M' : Mem} {H : Heap} {locs : List Loc} (hP : va_P D vwCl (pool cy ad 0 82 M) H) (hD : va_D A (pool cy ad 0 82 M)) (hS : va_S A s.heap H locs) {ls : Array Slot} (hl : lv_has ls 7 [(0, .ref (ad 0)), (1, .int x1), (2, .int x2), (3, .int x3), (4, .int x4)]) (h : b_X5_odds_52 N x1 x2 x3 x4 M = some (rr, M')) : W p l e ({ frames := 7, cells := 0, slots := 0, locals := 168 } : Room) s m args below meth c H locs 0 0 (MQ below (va_Ql (fun (x : Int64) (_ : Unit) => x = rr) (fun _ t => PA D cy ad 0 82 A M' t) A) args s 0 0 A) (F0 m 52 ls []) := by
  obtain ⟨hx, hb, hml, hown, hts, hr, hlk, hK, hN, hA, hX⟩ := id C
  unfold b_X5_odds_52 at h
  refine lv_iconst (v := 0) hx hb dX5_odds_52 (by decide) ?_
  refine lv_istore (lv' := [(5, .int (0 : Int32)), (0, .ref (ad 0)), (1, .int x1), (2, .int x2), (3, .int x3), (4, .int x4)]) hx hb dX5_odds_53 hl (by decide) rfl (fun ls hl => ?_)
  refine lv_iconst (v := 0) hx hb dX5_odds_55 (by decide) ?_
  refine lv_istore (lv' := [(6, .int (0 : Int32)), (5, .int (0 : Int32)), (0, .ref (ad 0)), (1, .int x1), (2, .int x2), (3, .int x3), (4, .int x4)]) hx hb dX5_odds_56 hl (by decide) rfl (fun ls hl => ?_)
  exact w_X5_odds_58 C N _ _ _ _ _ hP hD hS _ (lv_sub hl [2, 3, 4, 5, 6, 1, 0] rfl) h
def b_X5_odds_0 (N : Nat) (x1 : Int32) (x2 : Int32) (x3 : Int32) (x4 : Int32) (M : Mem) : Option (Int64 × Mem) := (if x1 < 0 then some ((-4611686018427387904 : Int64), M) else (if (100000 : Int32) ≤ x1 then some ((-4611686018427387904 : Int64), M) else (if x2 < (1 : Int32) then some ((-4611686018427387904 : Int64), M) else (if x2 ≤ (40 : Int32) then (if x3 < 0 then some ((-4611686018427387904 : Int64), M) else (if (999 : Int32) < x3 then some ((-4611686018427387904 : Int64), M) else (if x4 = 0 then b_X5_odds_52 N x1 x2 x3 x4 M else (if x4 = (1 : Int32) then b_X5_odds_52 N x1 x2 x3 x4 M else some ((-4611686018427387904 : Int64), M))))) else some ((-4611686018427387904 : Int64), M)))))
set_option maxHeartbeats 4000000 in
set_option maxRecDepth 100000 in
theorem w_X5_odds_0 (C : CX p s m args meth c cX5_odds 7 (some .long) RX5 D cy ad zz 0 82 A) {N : Nat} {M : Mem} {x1 : Int32} {x2 : Int32} {x3 : Int32} {x4 : Int32} {rr : Int64} {M' : Mem} {H : Heap} {locs : List Loc} (hP : va_P D vwCl (pool cy ad 0 82 M) H) (hD : va_D A (pool cy ad 0 82 M)) (hS : va_S A s.heap H locs) {ls : Array Slot} (hl : lv_has ls 7 [(0, .ref (ad 0)), (1, .int x1), (2, .int x2), (3, .int x3), (4, .int x4)]) (h : b_X5_odds_0 N x1 x2 x3 x4 M = some (rr, M')) : W p l e ({ frames := 7, cells := 0, slots := 0, locals := 168 } : Room) s m args below meth c H locs 0 0 (MQ below (va_Ql (fun (x : Int64) (_ : Unit) => x = rr) (fun _ t => PA D cy ad 0 82 A M' t) A) args s 0 0 A) (F0 m 0 ls []) := by
  obtain ⟨hx, hb, hml, hown, hts, hr, hlk, hK, hN, hA, hX⟩ := id C
  unfold b_X5_odds_0 at h
  refine lv_iload_n hx hb dX5_odds_0 rfl (lv_at hl 1 rfl) ?_
  refine lv_if_lt (tgt := 22) hx hb dX5_odds_1 (by decide) (fun c1 => ?_) (fun c1 => ?_)
  · replace h := it_t c1 h
    refine lv_ldc2 hx hb hown (hts _ wd_643) dX5_odds_22 ?_
    exact rt_l (r := (-4611686018427387904 : Int64)) C hP hD hS dX5_odds_25 (rw_end h)
  · replace h := it_f c1 h
    refine lv_iload_n hx hb dX5_odds_4 rfl (lv_at hl 1 rfl) ?_
    refine lv_ldcw hx hb hown (hts _ wd_779) dX5_odds_5 ?_
    refine lv_icmp_ge (tgt := 22) hx hb dX5_odds_8 (by decide) (fun c8 => ?_) (fun c8 => ?_)
    · replace h := it_t c8 h
      refine lv_ldc2 hx hb hown (hts _ wd_643) dX5_odds_22 ?_
      exact rt_l (r := (-4611686018427387904 : Int64)) C hP hD hS dX5_odds_25 (rw_end h)
    · replace h := it_f c8 h
      refine lv_iload_n hx hb dX5_odds_11 rfl (lv_at hl 2 rfl) ?_
      refine lv_iconst (v := 1) hx hb dX5_odds_12 (by decide) ?_
      refine lv_icmp_lt (tgt := 22) hx hb dX5_odds_13 (by decide) (fun c13 => ?_) (fun c13 => ?_)
      · replace h := it_t c13 h
        refine lv_ldc2 hx hb hown (hts _ wd_643) dX5_odds_22 ?_
        exact rt_l (r := (-4611686018427387904 : Int64)) C hP hD hS dX5_odds_25 (rw_end h)
      · replace h := it_f c13 h
        refine lv_iload_n hx hb dX5_odds_16 rfl (lv_at hl 2 rfl) ?_
        refine lv_bipush (v := 40) hx hb dX5_odds_17 (by decide) ?_
        refine lv_icmp_le (tgt := 26) hx hb dX5_odds_19 (by decide) (fun c19 => ?_) (fun c19 => ?_)
        · replace h := it_t c19 h
          refine lv_iload_n hx hb dX5_odds_26 rfl (lv_at hl 3 rfl) ?_
          refine lv_if_lt (tgt := 48) hx hb dX5_odds_27 (by decide) (fun c27 => ?_) (fun c27 => ?_)
          · replace h := it_t c27 h
            refine lv_ldc2 hx hb hown (hts _ wd_643) dX5_odds_48 ?_
            exact rt_l (r := (-4611686018427387904 : Int64)) C hP hD hS dX5_odds_51 (rw_end h)
          · replace h := it_f c27 h
            refine lv_iload_n hx hb dX5_odds_30 rfl (lv_at hl 3 rfl) ?_
            refine lv_sipush (v := 999) hx hb dX5_odds_31 (by decide) ?_
            refine lv_icmp_gt (tgt := 48) hx hb dX5_odds_34 (by decide) (fun c34 => ?_) (fun c34 => ?_)
            · replace h := it_t c34 h
              refine lv_ldc2 hx hb hown (hts _ wd_643) dX5_odds_48 ?_
              exact rt_l (r := (-4611686018427387904 : Int64)) C hP hD hS dX5_odds_51 (rw_end h)
            · replace h := it_f c34 h
              refine lv_iload hx hb dX5_odds_37 (lv_at hl 4 rfl) ?_
              refine lv_if_eq (tgt := 52) hx hb dX5_odds_39 (by decide) (fun c39 => ?_) (fun c39 => ?_)
              · replace h := it_t c39 h
                exact w_X5_odds_52 C hP hD hS hl h
              · replace h := it_f c39 h
                refine lv_iload hx hb dX5_odds_42 (lv_at hl 4 rfl) ?_
                refine lv_iconst (v := 1) hx hb dX5_odds_44 (by decide) ?_
                refine lv_icmp_eq (tgt := 52) hx hb dX5_odds_45 (by decide) (fun c45 => ?_) (fun c45 => ?_)
                · replace h := it_t c45 h
                  exact w_X5_odds_52 C hP hD hS hl h
                · replace h := it_f c45 h
                  refine lv_ldc2 hx hb hown (hts _ wd_643) dX5_odds_48 ?_
                  exact rt_l (r := (-4611686018427387904 : Int64)) C hP hD hS dX5_odds_51 (rw_end h)
        · replace h := it_f c19 h
          refine lv_ldc2 hx hb hown (hts _ wd_643) dX5_odds_22 ?_
          exact rt_l (r := (-4611686018427387904 : Int64)) C hP hD hS dX5_odds_25 (rw_end h)
def f_X5_odds (N : Nat) (x1 : Int32) (x2 : Int32) (x3 : Int32) (x4 : Int32) (M : Mem) : Option (Int64 × Mem) := b_X5_odds_0 N x1 x2 x3 x4 M
theorem c_X5_odds {l : Launch} {D : va_G} {cy : Nat → ClassId} {ad : Nat → Nat} {zz : (Nat → Nat) × (Nat → Nat)} {N : Nat} {x1 : Int32} {x2 : Int32} {x3 : Int32} {x4 : Int32} {M : Mem} {rr : Int64} {M' : Mem} (h : f_X5_odds N x1 x2 x3 x4 M = some (rr, M')) : CTl l D cy ad zz 0 82 yX5_odds (.code yX5_odds cX5_odds 7 (some .long) :: tb) ({ frames := 7, cells := 0, slots := 0, locals := 168 } : Room) [.ref (ad 0), .int x1, .int x2, .int x3, .int x4] M rr M' := by
  intro sz
  refine CX.of (by decide +kernel) (fun p e s m args below meth c H ls C hP hD hS hl => ?_) (Nat.le_of_ble_eq_true rfl)
  exact w_X5_odds_0 C hP hD hS hl h
theorem ev_X5_odds : yX5_odds.cls = RX5 ∧ yX5_odds.cls ≠ "java/lang/invoke/MethodHandle" ∧ yX5_odds.cls ≠ "java/lang/invoke/VarHandle" ∧ (parseMethodDescriptor yX5_odds.desc).map (fun d => d.parameters.length) = some 4 := by decide +kernel
def b_X5_image_16 (N : Nat) (M : Mem) : Option (Int32 × Mem) := some ((FI M 1 3), M)
set_option maxHeartbeats 4000000 in
set_option maxRecDepth 100000 in
theorem w_X5_image_16 (C : CX p s m args meth c cX5_image 1 (some .int) RX5 D cy ad zz 0 82 A) {N : Nat} {M : Mem} {rr : Int32} {M' : Mem} {H : Heap} {locs : List Loc} (hP : va_P D vwCl (pool cy ad 0 82 M) H) (hD : va_D A (pool cy ad 0 82 M)) (hS : va_S A s.heap H locs) {ls : Array Slot} (hl : lv_has ls 1 [(0, .ref (ad 0))]) (h : b_X5_image_16 N M = some (rr, M')) : W p l e ({ frames := 3, cells := 0, slots := 0, locals := 103 } : Room) s m args below meth c H locs 0 0 (MQ below (va_Qi (fun (x : Int32) (_ : Unit) => x = rr) (fun _ t => PA D cy ad 0 82 A M' t) A) args s 0 0 A) (F0 m 16 ls []) := by
  obtain ⟨hx, hb, hml, hown, hts, hr, hlk, hK, hN, hA, hX⟩ := id C
  unfold b_X5_image_16 at h
  refine lv_aload_n hx hb dX5_image_16 rfl (lv_at hl 0 rfl) ?_
  refine gf_5_0 C hP (iL (by decide)) (by decide) wd_374 dX5_image_17 ?_
  refine gf_4_3 C hP (iL (by decide)) (by decide) wd_149 dX5_image_20 ?_
  exact rt_i (r := (FI M 1 3)) C hP hD hS dX5_image_23 (rw_end h)
def b_X5_image_0 (N : Nat) (M : Mem) : Option (Int32 × Mem) := (f_X4_becomeAs N 3 1 M).bind fun M8 => b_X5_image_16 N (sFI M8 0 10 (1 : Int32))
set_option maxHeartbeats 4000000 in
set_option maxRecDepth 100000 in
theorem w_X5_image_0 (C : CX p s m args meth c cX5_image 1 (some .int) RX5 D cy ad zz 0 82 A) {N : Nat} {M : Mem} {rr : Int32} {M' : Mem} {H : Heap} {locs : List Loc} (hP : va_P D vwCl (pool cy ad 0 82 M) H) (hD : va_D A (pool cy ad 0 82 M)) (hS : va_S A s.heap H locs) {ls : Array Slot} (hl : lv_has ls 1 [(0, .ref (ad 0))]) (h : b_X5_image_0 N M = some (rr, M')) : W p l e ({ frames := 3, cells := 0, slots := 0, locals := 103 } : Room) s m args below meth c H locs 0 0 (MQ below (va_Qi (fun (x : Int32) (_ : Unit) => x = rr) (fun _ t => PA D cy ad 0 82 A M' t) A) args s 0 0 A) (F0 m 0 ls []) := by
  obtain ⟨hx, hb, hml, hown, hts, hr, hlk, hK, hN, hA, hX⟩ := id C
  unfold b_X5_image_0 at h
  refine lv_aload_n hx hb dX5_image_0 rfl (lv_at hl 0 rfl) ?_
  refine gf_5_2 C hP (iL (by decide)) (by decide) wd_376 dX5_image_1 ?_
  refine lv_aload_n hx hb dX5_image_4 rfl (lv_at hl 0 rfl) ?_
  refine gf_5_0 C hP (iL (by decide)) (by decide) wd_374 dX5_image_5 ?_
  obtain ⟨M8, g8, h⟩ := bd_of h
  refine call_vV (As := [.ref (ad 1)]) (rest := []) C hP hD hS (c_X4_becomeAs (by decide) (by decide) g8) (iL (by decide)) ⟨4, _, _, ent_4 (by decide), rfl, rfl⟩ (gV wd_615 wd_616 wd_617 wd_65 wd_618) ev_X4_becomeAs ⟨rfl, rfl⟩ ⟨Nat.le_of_ble_eq_true rfl, Nat.le_of_ble_eq_true rfl⟩ hl.1 rfl (Nat.le_of_ble_eq_true rfl) dX5_image_8 (fun H locs hP hD hS => ?_)
  refine lv_aload_n hx hb dX5_image_11 rfl (lv_at hl 0 rfl) ?_
  refine lv_iconst (v := 1) hx hb dX5_image_12 (by decide) ?_
  refine pf_5_10 C hP hD hS (iL (by decide)) (by decide) rfl rfl wd_384 dX5_image_13 (fun H locs hP hD hS => ?_)
  exact w_X5_image_16 C hP hD hS hl h
def f_X5_image (N : Nat) (M : Mem) : Option (Int32 × Mem) := b_X5_image_0 N M
theorem c_X5_image {l : Launch} {D : va_G} {cy : Nat → ClassId} {ad : Nat → Nat} {zz : (Nat → Nat) × (Nat → Nat)} {N : Nat} {M : Mem} {rr : Int32} {M' : Mem} (h : f_X5_image N M = some (rr, M')) : CTi l D cy ad zz 0 82 yX5_image (.code yX5_image cX5_image 1 (some .int) :: tb) ({ frames := 3, cells := 0, slots := 0, locals := 103 } : Room) [.ref (ad 0)] M rr M' := by
  intro sz
  refine CX.of (by decide +kernel) (fun p e s m args below meth c H ls C hP hD hS hl => ?_) (Nat.le_of_ble_eq_true rfl)
  exact w_X5_image_0 C hP hD hS hl h
theorem ev_X5_image : yX5_image.cls = RX5 ∧ yX5_image.cls ≠ "java/lang/invoke/MethodHandle" ∧ yX5_image.cls ≠ "java/lang/invoke/VarHandle" ∧ (parseMethodDescriptor yX5_image.desc).map (fun d => d.parameters.length) = some 0 := by decide +kernel
def b_X5_back_0 (N : Nat) (M : Mem) : Option (Int32 × Mem) := (if (FI M 0 10) = 0 then some ((-3 : Int32), M) else (f_X4_becomeAs N 1 3 M).bind fun M18 => some ((FI M18 1 3), M18))
set_option maxHeartbeats 4000000 in
set_option maxRecDepth 100000 in
theorem w_X5_back_0 (C : CX p s m args meth c cX5_back 1 (some .int) RX5 D cy ad zz 0 82 A) {N : Nat} {M : Mem} {rr : Int32} {M' : Mem} {H : Heap} {locs : List Loc} (hP : va_P D vwCl (pool cy ad 0 82 M) H) (hD : va_D A (pool cy ad 0 82 M)) (hS : va_S A s.heap H locs) {ls : Array Slot} (hl : lv_has ls 1 [(0, .ref (ad 0))]) (h : b_X5_back_0 N M = some (rr, M')) : W p l e ({ frames := 3, cells := 0, slots := 0, locals := 103 } : Room) s m args below meth c H locs 0 0 (MQ below (va_Qi (fun (x : Int32) (_ : Unit) => x = rr) (fun _ t => PA D cy ad 0 82 A M' t) A) args s 0 0 A) (F0 m 0 ls []) := by
  obtain ⟨hx, hb, hml, hown, hts, hr, hlk, hK, hN, hA, hX⟩ := id C
  unfold b_X5_back_0 at h
  refine lv_aload_n hx hb dX5_back_0 rfl (lv_at hl 0 rfl) ?_
  refine gf_5_10 C hP (iL (by decide)) (by decide) wd_384 dX5_back_1 ?_
  refine lv_if_ne (tgt := 10) hx hb dX5_back_4 (by decide) (fun c4 => ?_) (fun c4 => ?_)
  · replace h := it_f c4 h
    refine lv_aload_n hx hb dX5_back_10 rfl (lv_at hl 0 rfl) ?_
    refine gf_5_0 C hP (iL (by decide)) (by decide) wd_374 dX5_back_11 ?_
    refine lv_aload_n hx hb dX5_back_14 rfl (lv_at hl 0 rfl) ?_
    refine gf_5_2 C hP (iL (by decide)) (by decide) wd_376 dX5_back_15 ?_
    obtain ⟨M18, g18, h⟩ := bd_of h
    refine call_vV (As := [.ref (ad 3)]) (rest := []) C hP hD hS (c_X4_becomeAs (by decide) (by decide) g18) (iL (by decide)) ⟨4, _, _, ent_4 (by decide), rfl, rfl⟩ (gV wd_615 wd_616 wd_617 wd_65 wd_618) ev_X4_becomeAs ⟨rfl, rfl⟩ ⟨Nat.le_of_ble_eq_true rfl, Nat.le_of_ble_eq_true rfl⟩ hl.1 rfl (Nat.le_of_ble_eq_true rfl) dX5_back_18 (fun H locs hP hD hS => ?_)
    refine lv_aload_n hx hb dX5_back_21 rfl (lv_at hl 0 rfl) ?_
    refine gf_5_0 C hP (iL (by decide)) (by decide) wd_374 dX5_back_22 ?_
    refine gf_4_3 C hP (iL (by decide)) (by decide) wd_149 dX5_back_25 ?_
    exact rt_i (r := (FI M18 1 3)) C hP hD hS dX5_back_28 (rw_end h)
  · replace h := it_t c4 h
    refine lv_bipush (v := -3) hx hb dX5_back_7 (by decide) ?_
    exact rt_i (r := (-3 : Int32)) C hP hD hS dX5_back_9 (rw_end h)
def f_X5_back (N : Nat) (M : Mem) : Option (Int32 × Mem) := b_X5_back_0 N M
theorem c_X5_back {l : Launch} {D : va_G} {cy : Nat → ClassId} {ad : Nat → Nat} {zz : (Nat → Nat) × (Nat → Nat)} {N : Nat} {M : Mem} {rr : Int32} {M' : Mem} (h : f_X5_back N M = some (rr, M')) : CTi l D cy ad zz 0 82 yX5_back (.code yX5_back cX5_back 1 (some .int) :: tb) ({ frames := 3, cells := 0, slots := 0, locals := 103 } : Room) [.ref (ad 0)] M rr M' := by
  intro sz
  refine CX.of (by decide +kernel) (fun p e s m args below meth c H ls C hP hD hS hl => ?_) (Nat.le_of_ble_eq_true rfl)
  exact w_X5_back_0 C hP hD hS hl h
theorem ev_X5_back : yX5_back.cls = RX5 ∧ yX5_back.cls ≠ "java/lang/invoke/MethodHandle" ∧ yX5_back.cls ≠ "java/lang/invoke/VarHandle" ∧ (parseMethodDescriptor yX5_back.desc).map (fun d => d.parameters.length) = some 0 := by decide +kernel
def b_X5_sheet_0 (N : Nat) (x1 : Int32) (x2 : Int32) (x3 : Int32) (M : Mem) : Option (Int32 × Mem) := (f_X5_isSheet x1 M).bind fun r1 => (if r1 = true then (if x2 < (-1 : Int32) then some ((-2 : Int32), M) else (if x2 ≤ (2 : Int32) then (if x2 = (-1 : Int32) then gd (inb x1 (len 73)) (gd (isK (AR 73 x1.toNatClampNeg) 1) ((f_X1_becomeRow N (AR 73 x1.toNatClampNeg) (-1 : Int32) (0 : Int32) M).bind fun M33 => some ((1 : Int32), M33))) else (if x3 ≤ (40 : Int32) then (if 0 ≤ x3 then gd (inb x1 (len 73)) (gd (isK (AR 73 x1.toNatClampNeg) 1) ((f_X1_becomeRow N (AR 73 x1.toNatClampNeg) x2 x3 M).bind fun M62 => some ((1 : Int32), M62))) else some ((-14 : Int32), M)) else some ((-2 : Int32), M))) else some ((-2 : Int32), M))) else some ((-2 : Int32), M))
set_option maxHeartbeats 4000000 in
set_option maxRecDepth 100000 in
theorem w_X5_sheet_0 (C : CX p s m args meth c cX5_sheet 4 (some .int) RX5 D cy ad zz 0 82 A) {N : Nat} {M : Mem} {x1 : Int32} {x2 : Int32} {x3 : Int32} {rr : Int32} {M' : Mem} {H : Heap} {locs : List Loc} (hP : va_P D vwCl (pool cy ad 0 82 M) H) (hD : va_D A (pool cy ad 0 82 M)) (hS : va_S A s.heap H locs) {ls : Array Slot} (hl : lv_has ls 4 [(0, .ref (ad 0)), (1, .int x1), (2, .int x2), (3, .int x3)]) (h : b_X5_sheet_0 N x1 x2 x3 M = some (rr, M')) : W p l e ({ frames := 2, cells := 0, slots := 0, locals := 45 } : Room) s m args below meth c H locs 0 0 (MQ below (va_Qi (fun (x : Int32) (_ : Unit) => x = rr) (fun _ t => PA D cy ad 0 82 A M' t) A) args s 0 0 A) (F0 m 0 ls []) := by
  obtain ⟨hx, hb, hml, hown, hts, hr, hlk, hK, hN, hA, hX⟩ := id C
  unfold b_X5_sheet_0 at h
  refine lv_iload_n hx hb dX5_sheet_0 rfl (lv_at hl 1 rfl) ?_
  obtain ⟨r1, g1, h⟩ := bd_of h
  refine call_iS (As := [.int x1]) (rest := []) C hP hD hS (c_X5_isSheet g1) (gS wd_556 wd_557 wd_64 wd_558) es_X5_isSheet ⟨rfl, rfl⟩ ⟨Nat.le_of_ble_eq_true rfl, Nat.le_of_ble_eq_true rfl⟩ hl.1 rfl (Nat.le_of_ble_eq_true rfl) dX5_sheet_1 (fun H locs hP hD hS => ?_)
  refine lv_if_eq (tgt := 17) hx hb dX5_sheet_4 (by decide) (fun c4 => ?_) (fun c4 => ?_)
  · replace h := it_f (b2i_n c4) h
    refine lv_bipush (v := -2) hx hb dX5_sheet_17 (by decide) ?_
    exact rt_i (r := (-2 : Int32)) C hP hD hS dX5_sheet_19 (rw_end h)
  · replace h := it_t (b2i_1 c4) h
    refine lv_iload_n hx hb dX5_sheet_7 rfl (lv_at hl 2 rfl) ?_
    refine lv_iconst (v := -1) hx hb dX5_sheet_8 (by decide) ?_
    refine lv_icmp_lt (tgt := 17) hx hb dX5_sheet_9 (by decide) (fun c9 => ?_) (fun c9 => ?_)
    · replace h := it_t c9 h
      refine lv_bipush (v := -2) hx hb dX5_sheet_17 (by decide) ?_
      exact rt_i (r := (-2 : Int32)) C hP hD hS dX5_sheet_19 (rw_end h)
    · replace h := it_f c9 h
      refine lv_iload_n hx hb dX5_sheet_12 rfl (lv_at hl 2 rfl) ?_
      refine lv_iconst (v := 2) hx hb dX5_sheet_13 (by decide) ?_
      refine lv_icmp_le (tgt := 20) hx hb dX5_sheet_14 (by decide) (fun c14 => ?_) (fun c14 => ?_)
      · replace h := it_t c14 h
        refine lv_iload_n hx hb dX5_sheet_20 rfl (lv_at hl 2 rfl) ?_
        refine lv_iconst (v := -1) hx hb dX5_sheet_21 (by decide) ?_
        refine lv_icmp_ne (tgt := 38) hx hb dX5_sheet_22 (by decide) (fun c22 => ?_) (fun c22 => ?_)
        · replace h := it_f c22 h
          refine lv_iload_n hx hb dX5_sheet_38 rfl (lv_at hl 3 rfl) ?_
          refine lv_bipush (v := 40) hx hb dX5_sheet_39 (by decide) ?_
          refine lv_icmp_le (tgt := 47) hx hb dX5_sheet_41 (by decide) (fun c41 => ?_) (fun c41 => ?_)
          · replace h := it_t c41 h
            refine lv_iload_n hx hb dX5_sheet_47 rfl (lv_at hl 3 rfl) ?_
            refine lv_if_ge (tgt := 54) hx hb dX5_sheet_48 (by decide) (fun c48 => ?_) (fun c48 => ?_)
            · replace h := it_t c48 h
              refine lv_aload_n hx hb dX5_sheet_54 rfl (lv_at hl 0 rfl) ?_
              refine gf_5_7 C hP (iL (by decide)) (by decide) wd_381 dX5_sheet_55 ?_
              refine lv_iload_n hx hb dX5_sheet_58 rfl (lv_at hl 1 rfl) ?_
              obtain ⟨gi1, h⟩ := gd_of h
              refine aa_9 C hP (iL (by decide)) (by decide) gi1 dX5_sheet_59 ?_
              refine lv_iload_n hx hb dX5_sheet_60 rfl (lv_at hl 2 rfl) ?_
              refine lv_iload_n hx hb dX5_sheet_61 rfl (lv_at hl 3 rfl) ?_
              obtain ⟨gk2, h⟩ := gd_of h
              obtain ⟨M62, g62, h⟩ := bd_of h
              refine call_vV (As := [.int x2, .int x3]) (rest := []) C hP hD hS (c_X1_becomeRow (isK_of gk2) g62) (p_1 (isK_of gk2)) ⟨1, _, _, ent_1 (isK_of gk2), rfl, rfl⟩ (gV wd_762 wd_763 wd_764 wd_68 wd_765) ev_X1_becomeRow ⟨rfl, rfl⟩ ⟨Nat.le_of_ble_eq_true rfl, Nat.le_of_ble_eq_true rfl⟩ hl.1 rfl (Nat.le_of_ble_eq_true rfl) dX5_sheet_62 (fun H locs hP hD hS => ?_)
              refine lv_iconst (v := 1) hx hb dX5_sheet_65 (by decide) ?_
              exact rt_i (r := (1 : Int32)) C hP hD hS dX5_sheet_66 (rw_end h)
            · replace h := it_f c48 h
              refine lv_bipush (v := -14) hx hb dX5_sheet_51 (by decide) ?_
              exact rt_i (r := (-14 : Int32)) C hP hD hS dX5_sheet_53 (rw_end h)
          · replace h := it_f c41 h
            refine lv_bipush (v := -2) hx hb dX5_sheet_44 (by decide) ?_
            exact rt_i (r := (-2 : Int32)) C hP hD hS dX5_sheet_46 (rw_end h)
        · replace h := it_t c22 h
          refine lv_aload_n hx hb dX5_sheet_25 rfl (lv_at hl 0 rfl) ?_
          refine gf_5_7 C hP (iL (by decide)) (by decide) wd_381 dX5_sheet_26 ?_
          refine lv_iload_n hx hb dX5_sheet_29 rfl (lv_at hl 1 rfl) ?_
          obtain ⟨gi3, h⟩ := gd_of h
          refine aa_9 C hP (iL (by decide)) (by decide) gi3 dX5_sheet_30 ?_
          refine lv_iconst (v := -1) hx hb dX5_sheet_31 (by decide) ?_
          refine lv_iconst (v := 0) hx hb dX5_sheet_32 (by decide) ?_
          obtain ⟨gk4, h⟩ := gd_of h
          obtain ⟨M33, g33, h⟩ := bd_of h
          refine call_vV (As := [.int (-1 : Int32), .int (0 : Int32)]) (rest := []) C hP hD hS (c_X1_becomeRow (isK_of gk4) g33) (p_1 (isK_of gk4)) ⟨1, _, _, ent_1 (isK_of gk4), rfl, rfl⟩ (gV wd_762 wd_763 wd_764 wd_68 wd_765) ev_X1_becomeRow ⟨rfl, rfl⟩ ⟨Nat.le_of_ble_eq_true rfl, Nat.le_of_ble_eq_true rfl⟩ hl.1 rfl (Nat.le_of_ble_eq_true rfl) dX5_sheet_33 (fun H locs hP hD hS => ?_)
          refine lv_iconst (v := 1) hx hb dX5_sheet_36 (by decide) ?_
          exact rt_i (r := (1 : Int32)) C hP hD hS dX5_sheet_37 (rw_end h)
      · replace h := it_f c14 h
        refine lv_bipush (v := -2) hx hb dX5_sheet_17 (by decide) ?_
        exact rt_i (r := (-2 : Int32)) C hP hD hS dX5_sheet_19 (rw_end h)
def f_X5_sheet (N : Nat) (x1 : Int32) (x2 : Int32) (x3 : Int32) (M : Mem) : Option (Int32 × Mem) := b_X5_sheet_0 N x1 x2 x3 M
theorem c_X5_sheet {l : Launch} {D : va_G} {cy : Nat → ClassId} {ad : Nat → Nat} {zz : (Nat → Nat) × (Nat → Nat)} {N : Nat} {x1 : Int32} {x2 : Int32} {x3 : Int32} {M : Mem} {rr : Int32} {M' : Mem} (h : f_X5_sheet N x1 x2 x3 M = some (rr, M')) : CTi l D cy ad zz 0 82 yX5_sheet (.code yX5_sheet cX5_sheet 4 (some .int) :: tb) ({ frames := 2, cells := 0, slots := 0, locals := 45 } : Room) [.ref (ad 0), .int x1, .int x2, .int x3] M rr M' := by
  intro sz
  refine CX.of (by decide +kernel) (fun p e s m args below meth c H ls C hP hD hS hl => ?_) (Nat.le_of_ble_eq_true rfl)
  exact w_X5_sheet_0 C hP hD hS hl h
theorem ev_X5_sheet : yX5_sheet.cls = RX5 ∧ yX5_sheet.cls ≠ "java/lang/invoke/MethodHandle" ∧ yX5_sheet.cls ≠ "java/lang/invoke/VarHandle" ∧ (parseMethodDescriptor yX5_sheet.desc).map (fun d => d.parameters.length) = some 3 := by decide +kernel
def b_X5_cell_0 (x1 : Int32) (x2 : Int32) (x3 : Int32) (M : Mem) : Option (Int32 × Mem) := (f_X5_sheetRefusal x1 M).bind fun r2 => (if r2 = 0 then gd (inb x1 (len 73)) (gd (isK (AR 73 x1.toNatClampNeg) 1) ((f_X1_has (AR 73 x1.toNatClampNeg) x2 M).bind fun r22 => (if r22 = true then gd (inb x1 (len 73)) (gd (isK (AR 73 x1.toNatClampNeg) 1) ((f_X1_write (AR 73 x1.toNatClampNeg) x2 x3 M).bind fun M39 => some ((1 : Int32), M39))) else some ((-12 : Int32), M)))) else some (r2, M))
set_option maxHeartbeats 4000000 in
set_option maxRecDepth 100000 in
theorem w_X5_cell_0 (C : CX p s m args meth c cX5_cell 5 (some .int) RX5 D cy ad zz 0 82 A) {M : Mem} {x1 : Int32} {x2 : Int32} {x3 : Int32} {rr : Int32} {M' : Mem} {H : Heap} {locs : List Loc} (hP : va_P D vwCl (pool cy ad 0 82 M) H) (hD : va_D A (pool cy ad 0 82 M)) (hS : va_S A s.heap H locs) {ls : Array Slot} (hl : lv_has ls 5 [(0, .ref (ad 0)), (1, .int x1), (2, .int x2), (3, .int x3)]) (h : b_X5_cell_0 x1 x2 x3 M = some (rr, M')) : W p l e ({ frames := 2, cells := 0, slots := 0, locals := 43 } : Room) s m args below meth c H locs 0 0 (MQ below (va_Qi (fun (x : Int32) (_ : Unit) => x = rr) (fun _ t => PA D cy ad 0 82 A M' t) A) args s 0 0 A) (F0 m 0 ls []) := by
  obtain ⟨hx, hb, hml, hown, hts, hr, hlk, hK, hN, hA, hX⟩ := id C
  unfold b_X5_cell_0 at h
  refine lv_aload_n hx hb dX5_cell_0 rfl (lv_at hl 0 rfl) ?_
  refine lv_iload_n hx hb dX5_cell_1 rfl (lv_at hl 1 rfl) ?_
  obtain ⟨r2, g2, h⟩ := bd_of h
  refine call_iV (As := [.int x1]) (rest := []) C hP hD hS (c_X5_sheetRefusal g2) (iL (by decide)) ⟨5, _, _, ent_5 (by decide), rfl, rfl⟩ (gV wd_552 wd_554 wd_16 wd_64 wd_555) ev_X5_sheetRefusal ⟨rfl, rfl⟩ ⟨Nat.le_of_ble_eq_true rfl, Nat.le_of_ble_eq_true rfl⟩ hl.1 rfl (Nat.le_of_ble_eq_true rfl) dX5_cell_2 (fun H locs hP hD hS => ?_)
  refine lv_istore (lv' := [(4, .int r2), (0, .ref (ad 0)), (1, .int x1), (2, .int x2), (3, .int x3)]) hx hb dX5_cell_5 hl (by decide) rfl (fun ls hl => ?_)
  refine lv_iload hx hb dX5_cell_7 (lv_at hl 0 rfl) ?_
  refine lv_if_eq (tgt := 15) hx hb dX5_cell_9 (by decide) (fun c9 => ?_) (fun c9 => ?_)
  · replace h := it_t c9 h
    refine lv_aload_n hx hb dX5_cell_15 rfl (lv_at hl 1 rfl) ?_
    refine gf_5_7 C hP (iL (by decide)) (by decide) wd_381 dX5_cell_16 ?_
    refine lv_iload_n hx hb dX5_cell_19 rfl (lv_at hl 2 rfl) ?_
    obtain ⟨gi1, h⟩ := gd_of h
    refine aa_9 C hP (iL (by decide)) (by decide) gi1 dX5_cell_20 ?_
    refine lv_iload_n hx hb dX5_cell_21 rfl (lv_at hl 3 rfl) ?_
    obtain ⟨gk2, h⟩ := gd_of h
    obtain ⟨r22, g22, h⟩ := bd_of h
    refine call_iV (As := [.int x2]) (rest := []) C hP hD hS (c_X1_has (isK_of gk2) g22) (p_1 (isK_of gk2)) ⟨1, _, _, ent_1 (isK_of gk2), rfl, rfl⟩ (gV wd_806 wd_568 wd_569 wd_68 wd_570) ev_X1_has ⟨rfl, rfl⟩ ⟨Nat.le_of_ble_eq_true rfl, Nat.le_of_ble_eq_true rfl⟩ hl.1 rfl (Nat.le_of_ble_eq_true rfl) dX5_cell_22 (fun H locs hP hD hS => ?_)
    refine lv_if_ne (tgt := 31) hx hb dX5_cell_25 (by decide) (fun c25 => ?_) (fun c25 => ?_)
    · replace h := it_t (b2i_1 c25) h
      refine lv_aload_n hx hb dX5_cell_31 rfl (lv_at hl 1 rfl) ?_
      refine gf_5_7 C hP (iL (by decide)) (by decide) wd_381 dX5_cell_32 ?_
      refine lv_iload_n hx hb dX5_cell_35 rfl (lv_at hl 2 rfl) ?_
      obtain ⟨gi3, h⟩ := gd_of h
      refine aa_9 C hP (iL (by decide)) (by decide) gi3 dX5_cell_36 ?_
      refine lv_iload_n hx hb dX5_cell_37 rfl (lv_at hl 3 rfl) ?_
      refine lv_iload_n hx hb dX5_cell_38 rfl (lv_at hl 4 rfl) ?_
      obtain ⟨gk4, h⟩ := gd_of h
      obtain ⟨M39, g39, h⟩ := bd_of h
      refine call_vV (As := [.int x2, .int x3]) (rest := []) C hP hD hS (c_X1_write (isK_of gk4) g39) (p_1 (isK_of gk4)) ⟨1, _, _, ent_1 (isK_of gk4), rfl, rfl⟩ (gV wd_771 wd_772 wd_773 wd_68 wd_774) ev_X1_write ⟨rfl, rfl⟩ ⟨Nat.le_of_ble_eq_true rfl, Nat.le_of_ble_eq_true rfl⟩ hl.1 rfl (Nat.le_of_ble_eq_true rfl) dX5_cell_39 (fun H locs hP hD hS => ?_)
      refine lv_iconst (v := 1) hx hb dX5_cell_42 (by decide) ?_
      exact rt_i (r := (1 : Int32)) C hP hD hS dX5_cell_43 (rw_end h)
    · replace h := it_f (b2i_n c25) h
      refine lv_bipush (v := -12) hx hb dX5_cell_28 (by decide) ?_
      exact rt_i (r := (-12 : Int32)) C hP hD hS dX5_cell_30 (rw_end h)
  · replace h := it_f c9 h
    refine lv_iload hx hb dX5_cell_12 (lv_at hl 0 rfl) ?_
    exact rt_i (r := r2) C hP hD hS dX5_cell_14 (rw_end h)
def f_X5_cell (x1 : Int32) (x2 : Int32) (x3 : Int32) (M : Mem) : Option (Int32 × Mem) := b_X5_cell_0 x1 x2 x3 M
theorem c_X5_cell {l : Launch} {D : va_G} {cy : Nat → ClassId} {ad : Nat → Nat} {zz : (Nat → Nat) × (Nat → Nat)} {x1 : Int32} {x2 : Int32} {x3 : Int32} {M : Mem} {rr : Int32} {M' : Mem} (h : f_X5_cell x1 x2 x3 M = some (rr, M')) : CTi l D cy ad zz 0 82 yX5_cell (.code yX5_cell cX5_cell 5 (some .int) :: tb) ({ frames := 2, cells := 0, slots := 0, locals := 43 } : Room) [.ref (ad 0), .int x1, .int x2, .int x3] M rr M' := by
  intro sz
  refine CX.of (by decide +kernel) (fun p e s m args below meth c H ls C hP hD hS hl => ?_) (Nat.le_of_ble_eq_true rfl)
  exact w_X5_cell_0 C hP hD hS hl h
theorem ev_X5_cell : yX5_cell.cls = RX5 ∧ yX5_cell.cls ≠ "java/lang/invoke/MethodHandle" ∧ yX5_cell.cls ≠ "java/lang/invoke/VarHandle" ∧ (parseMethodDescriptor yX5_cell.desc).map (fun d => d.parameters.length) = some 3 := by decide +kernel
def b_X5_copy_0 (x1 : Int32) (x2 : Int32) (x3 : Int32) (x4 : Int32) (x5 : Int32) (M : Mem) : Option (Int32 × Mem) := (f_X5_isSheet x1 M).bind fun r1 => (if r1 = true then (f_X5_isSheet x3 M).bind fun r8 => (if r8 = true then gd (inb x1 (len 73)) (gd (inb x3 (len 73)) (gd (isK (AR 73 x1.toNatClampNeg) 1) ((if (FI M (AR 73 x1.toNatClampNeg) 0) = (-1 : Int32) then some ((-11 : Int32), M) else gd (isK (AR 73 x3.toNatClampNeg) 1) ((if (FI M (AR 73 x3.toNatClampNeg) 0) = (-1 : Int32) then some ((-11 : Int32), M) else (if (FI M (AR 73 x1.toNatClampNeg) 0) = (FI M (AR 73 x3.toNatClampNeg) 0) then (f_X1_hasRun (AR 73 x1.toNatClampNeg) x2 x5 M).bind fun r75 => (if r75 = true then (f_X1_hasRun (AR 73 x3.toNatClampNeg) x4 x5 M).bind fun r87 => (if r87 = true then gd (decide (0 ≤ x2) && decide (0 ≤ x4) && decide (0 ≤ x5) && decide (x2.toNatClampNeg + x5.toNatClampNeg ≤ len ((AR 73 x1.toNatClampNeg) + 4)) && decide (x4.toNatClampNeg + x5.toNatClampNeg ≤ len ((AR 73 x3.toNatClampNeg) + 4))) (some (x5, (rAI M ((AR 73 x3.toNatClampNeg) + 4) (va_cpy (AI M ((AR 73 x1.toNatClampNeg) + 4)) (AI M ((AR 73 x3.toNatClampNeg) + 4)) x2.toNatClampNeg x4.toNatClampNeg x5.toNatClampNeg)))) else some ((-12 : Int32), M)) else some ((-12 : Int32), M)) else some ((-13 : Int32), M)))))))) else some ((-2 : Int32), M)) else some ((-2 : Int32), M))
set_option maxHeartbeats 4000000 in
set_option maxRecDepth 100000 in
theorem w_X5_copy_0 (C : CX p s m args meth c cX5_copy 8 (some .int) RX5 D cy ad zz 0 82 A) {M : Mem} {x1 : Int32} {x2 : Int32} {x3 : Int32} {x4 : Int32} {x5 : Int32} {rr : Int32} {M' : Mem} {H : Heap} {locs : List Loc} (hP : va_P D vwCl (pool cy ad 0 82 M) H) (hD : va_D A (pool cy ad 0 82 M)) (hS : va_S A s.heap H locs) {ls : Array Slot} (hl : lv_has ls 8 [(0, .ref (ad 0)), (1, .int x1), (2, .int x2), (3, .int x3), (4, .int x4), (5, .int x5)]) (h : b_X5_copy_0 x1 x2 x3 x4 x5 M = some (rr, M')) : W p l e ({ frames := 1, cells := 0, slots := 0, locals := 60 } : Room) s m args below meth c H locs 0 0 (MQ below (va_Qi (fun (x : Int32) (_ : Unit) => x = rr) (fun _ t => PA D cy ad 0 82 A M' t) A) args s 0 0 A) (F0 m 0 ls []) := by
  obtain ⟨hx, hb, hml, hown, hts, hr, hlk, hK, hN, hA, hX⟩ := id C
  unfold b_X5_copy_0 at h
  refine lv_iload_n hx hb dX5_copy_0 rfl (lv_at hl 1 rfl) ?_
  obtain ⟨r1, g1, h⟩ := bd_of h
  refine call_iS (As := [.int x1]) (rest := []) C hP hD hS (c_X5_isSheet g1) (gS wd_556 wd_557 wd_64 wd_558) es_X5_isSheet ⟨rfl, rfl⟩ ⟨Nat.le_of_ble_eq_true rfl, Nat.le_of_ble_eq_true rfl⟩ hl.1 rfl (Nat.le_of_ble_eq_true rfl) dX5_copy_1 (fun H locs hP hD hS => ?_)
  refine lv_if_eq (tgt := 14) hx hb dX5_copy_4 (by decide) (fun c4 => ?_) (fun c4 => ?_)
  · replace h := it_f (b2i_n c4) h
    refine lv_bipush (v := -2) hx hb dX5_copy_14 (by decide) ?_
    exact rt_i (r := (-2 : Int32)) C hP hD hS dX5_copy_16 (rw_end h)
  · replace h := it_t (b2i_1 c4) h
    refine lv_iload_n hx hb dX5_copy_7 rfl (lv_at hl 3 rfl) ?_
    obtain ⟨r8, g8, h⟩ := bd_of h
    refine call_iS (As := [.int x3]) (rest := []) C hP hD hS (c_X5_isSheet g8) (gS wd_556 wd_557 wd_64 wd_558) es_X5_isSheet ⟨rfl, rfl⟩ ⟨Nat.le_of_ble_eq_true rfl, Nat.le_of_ble_eq_true rfl⟩ hl.1 rfl (Nat.le_of_ble_eq_true rfl) dX5_copy_8 (fun H locs hP hD hS => ?_)
    refine lv_if_ne (tgt := 17) hx hb dX5_copy_11 (by decide) (fun c11 => ?_) (fun c11 => ?_)
    · replace h := it_t (b2i_1 c11) h
      refine lv_aload_n hx hb dX5_copy_17 rfl (lv_at hl 0 rfl) ?_
      refine gf_5_7 C hP (iL (by decide)) (by decide) wd_381 dX5_copy_18 ?_
      refine lv_iload_n hx hb dX5_copy_21 rfl (lv_at hl 1 rfl) ?_
      obtain ⟨gi1, h⟩ := gd_of h
      refine aa_9 C hP (iL (by decide)) (by decide) gi1 dX5_copy_22 ?_
      refine lv_astore (lv' := [(6, .ref (ad (AR 73 x1.toNatClampNeg))), (0, .ref (ad 0)), (1, .int x1), (2, .int x2), (3, .int x3), (4, .int x4), (5, .int x5)]) hx hb dX5_copy_23 hl (by decide) rfl (fun ls hl => ?_)
      refine lv_aload_n hx hb dX5_copy_25 rfl (lv_at hl 1 rfl) ?_
      refine gf_5_7 C hP (iL (by decide)) (by decide) wd_381 dX5_copy_26 ?_
      refine lv_iload_n hx hb dX5_copy_29 rfl (lv_at hl 4 rfl) ?_
      obtain ⟨gi2, h⟩ := gd_of h
      refine aa_9 C hP (iL (by decide)) (by decide) gi2 dX5_copy_30 ?_
      refine lv_astore (lv' := [(7, .ref (ad (AR 73 x3.toNatClampNeg))), (6, .ref (ad (AR 73 x1.toNatClampNeg))), (0, .ref (ad 0)), (1, .int x1), (2, .int x2), (3, .int x3), (4, .int x4), (5, .int x5)]) hx hb dX5_copy_31 hl (by decide) rfl (fun ls hl => ?_)
      refine lv_aload hx hb dX5_copy_33 (lv_at hl 1 rfl) ?_
      obtain ⟨gk3, h⟩ := gd_of h
      refine gf_1_0 C hP (p_1 (isK_of gk3)) (isK_of gk3) wd_197 dX5_copy_35 ?_
      refine lv_iconst (v := -1) hx hb dX5_copy_38 (by decide) ?_
      refine lv_icmp_eq (tgt := 51) hx hb dX5_copy_39 (by decide) (fun c39 => ?_) (fun c39 => ?_)
      · replace h := it_t c39 h
        refine lv_bipush (v := -11) hx hb dX5_copy_51 (by decide) ?_
        exact rt_i (r := (-11 : Int32)) C hP hD hS dX5_copy_53 (rw_end h)
      · replace h := it_f c39 h
        refine lv_aload hx hb dX5_copy_42 (lv_at hl 0 rfl) ?_
        obtain ⟨gk4, h⟩ := gd_of h
        refine gf_1_0 C hP (p_1 (isK_of gk4)) (isK_of gk4) wd_197 dX5_copy_44 ?_
        refine lv_iconst (v := -1) hx hb dX5_copy_47 (by decide) ?_
        refine lv_icmp_ne (tgt := 54) hx hb dX5_copy_48 (by decide) (fun c48 => ?_) (fun c48 => ?_)
        · replace h := it_f c48 h
          refine lv_aload hx hb dX5_copy_54 (lv_at hl 1 rfl) ?_
          refine gf_1_0 C hP (p_1 (isK_of gk3)) (isK_of gk3) wd_197 dX5_copy_56 ?_
          refine lv_aload hx hb dX5_copy_59 (lv_at hl 0 rfl) ?_
          refine gf_1_0 C hP (p_1 (isK_of gk4)) (isK_of gk4) wd_197 dX5_copy_61 ?_
          refine lv_icmp_eq (tgt := 70) hx hb dX5_copy_64 (by decide) (fun c64 => ?_) (fun c64 => ?_)
          · replace h := it_t c64 h
            refine lv_aload hx hb dX5_copy_70 (lv_at hl 1 rfl) ?_
            refine lv_iload_n hx hb dX5_copy_72 rfl (lv_at hl 4 rfl) ?_
            refine lv_iload hx hb dX5_copy_73 (lv_at hl 7 rfl) ?_
            obtain ⟨r75, g75, h⟩ := bd_of h
            refine call_iV (As := [.int x2, .int x5]) (rest := []) C hP hD hS (c_X1_hasRun (isK_of gk3) g75) (p_1 (isK_of gk3)) ⟨1, _, _, ent_1 (isK_of gk3), rfl, rfl⟩ (gV wd_811 wd_812 wd_813 wd_68 wd_814) ev_X1_hasRun ⟨rfl, rfl⟩ ⟨Nat.le_of_ble_eq_true rfl, Nat.le_of_ble_eq_true rfl⟩ hl.1 rfl (Nat.le_of_ble_eq_true rfl) dX5_copy_75 (fun H locs hP hD hS => ?_)
            refine lv_if_eq (tgt := 93) hx hb dX5_copy_78 (by decide) (fun c78 => ?_) (fun c78 => ?_)
            · replace h := it_f (b2i_n c78) h
              refine lv_bipush (v := -12) hx hb dX5_copy_93 (by decide) ?_
              exact rt_i (r := (-12 : Int32)) C hP hD hS dX5_copy_95 (rw_end h)
            · replace h := it_t (b2i_1 c78) h
              refine lv_aload hx hb dX5_copy_81 (lv_at hl 0 rfl) ?_
              refine lv_iload hx hb dX5_copy_83 (lv_at hl 6 rfl) ?_
              refine lv_iload hx hb dX5_copy_85 (lv_at hl 7 rfl) ?_
              obtain ⟨r87, g87, h⟩ := bd_of h
              refine call_iV (As := [.int x4, .int x5]) (rest := []) C hP hD hS (c_X1_hasRun (isK_of gk4) g87) (p_1 (isK_of gk4)) ⟨1, _, _, ent_1 (isK_of gk4), rfl, rfl⟩ (gV wd_811 wd_812 wd_813 wd_68 wd_814) ev_X1_hasRun ⟨rfl, rfl⟩ ⟨Nat.le_of_ble_eq_true rfl, Nat.le_of_ble_eq_true rfl⟩ hl.1 rfl (Nat.le_of_ble_eq_true rfl) dX5_copy_87 (fun H locs hP hD hS => ?_)
              refine lv_if_ne (tgt := 96) hx hb dX5_copy_90 (by decide) (fun c90 => ?_) (fun c90 => ?_)
              · replace h := it_t (b2i_1 c90) h
                refine lv_aload hx hb dX5_copy_96 (lv_at hl 1 rfl) ?_
                refine gf_1_2 C hP (p_1 (isK_of gk3)) (isK_of gk3) wd_202 dX5_copy_98 ?_
                refine lv_iload_n hx hb dX5_copy_101 rfl (lv_at hl 4 rfl) ?_
                refine lv_aload hx hb dX5_copy_102 (lv_at hl 0 rfl) ?_
                refine gf_1_2 C hP (p_1 (isK_of gk4)) (isK_of gk4) wd_202 dX5_copy_104 ?_
                refine lv_iload hx hb dX5_copy_107 (lv_at hl 6 rfl) ?_
                refine lv_iload hx hb dX5_copy_109 (lv_at hl 7 rfl) ?_
                obtain ⟨gc5, h⟩ := gd_of h
                refine ia_cp C hP hD hS (p_1_2 (isK_of gk3)) (k_1_2 (isK_of gk3)) (p_1_2 (isK_of gk4)) (k_1_2 (isK_of gk4)) wd_815 wd_625 wd_624 wd_77 gc5 hl.1 (Nat.le_of_ble_eq_true rfl) (by decide +kernel) dX5_copy_111 (fun H locs hP hD hS => ?_)
                refine lv_iload hx hb dX5_copy_114 (lv_at hl 7 rfl) ?_
                exact rt_i (r := x5) C hP hD hS dX5_copy_116 (rw_end h)
              · replace h := it_f (b2i_n c90) h
                refine lv_bipush (v := -12) hx hb dX5_copy_93 (by decide) ?_
                exact rt_i (r := (-12 : Int32)) C hP hD hS dX5_copy_95 (rw_end h)
          · replace h := it_f c64 h
            refine lv_bipush (v := -13) hx hb dX5_copy_67 (by decide) ?_
            exact rt_i (r := (-13 : Int32)) C hP hD hS dX5_copy_69 (rw_end h)
        · replace h := it_t c48 h
          refine lv_bipush (v := -11) hx hb dX5_copy_51 (by decide) ?_
          exact rt_i (r := (-11 : Int32)) C hP hD hS dX5_copy_53 (rw_end h)
    · replace h := it_f (b2i_n c11) h
      refine lv_bipush (v := -2) hx hb dX5_copy_14 (by decide) ?_
      exact rt_i (r := (-2 : Int32)) C hP hD hS dX5_copy_16 (rw_end h)
def f_X5_copy (x1 : Int32) (x2 : Int32) (x3 : Int32) (x4 : Int32) (x5 : Int32) (M : Mem) : Option (Int32 × Mem) := b_X5_copy_0 x1 x2 x3 x4 x5 M
theorem c_X5_copy {l : Launch} {D : va_G} {cy : Nat → ClassId} {ad : Nat → Nat} {zz : (Nat → Nat) × (Nat → Nat)} {x1 : Int32} {x2 : Int32} {x3 : Int32} {x4 : Int32} {x5 : Int32} {M : Mem} {rr : Int32} {M' : Mem} (h : f_X5_copy x1 x2 x3 x4 x5 M = some (rr, M')) : CTi l D cy ad zz 0 82 yX5_copy (.code yX5_copy cX5_copy 8 (some .int) :: tb) ({ frames := 1, cells := 0, slots := 0, locals := 60 } : Room) [.ref (ad 0), .int x1, .int x2, .int x3, .int x4, .int x5] M rr M' := by
  intro sz
  refine CX.of (by decide +kernel) (fun p e s m args below meth c H ls C hP hD hS hl => ?_) (Nat.le_of_ble_eq_true rfl)
  exact w_X5_copy_0 C hP hD hS hl h
theorem ev_X5_copy : yX5_copy.cls = RX5 ∧ yX5_copy.cls ≠ "java/lang/invoke/MethodHandle" ∧ yX5_copy.cls ≠ "java/lang/invoke/VarHandle" ∧ (parseMethodDescriptor yX5_copy.desc).map (fun d => d.parameters.length) = some 5 := by decide +kernel
def b_X5_sleepersBy_138 (N : Nat) (x1 : Int32) (x2 : Int32) (x3 : Int32) (x4 : Int32) (k69 : Nat → Int32 → Int32 → Mem → Option (Int32 × Mem)) (j5 : Nat) (x6 : Int32) (x7 : Int32) (M : Mem) : Option (Int32 × Mem) := k69 j5 x6 (x7 + (1 : Int32)) M
set_option maxHeartbeats 4000000 in
set_option maxRecDepth 100000 in
theorem w_X5_sleepersBy_138 (C : CX p s m args meth c cX5_sleepersBy 8 (some .int) RX5 D cy ad zz 0 82 A) {N : Nat} {M : Mem} {x1 : Int32} {x2 : Int32} {x3 : Int32} {x4 : Int32} {k69 : Nat → Int32 → Int32 → Mem → Option (Int32 × Mem)} {rr : Int32} {M' : Mem} (hk69 : ∀ (j5 : Nat), ∀ (x6 : Int32), ∀ (x7 : Int32), kd j5 = 1 → ∀ (M : Mem), ∀ (H : Heap) (locs : List Loc), va_P D vwCl (pool cy ad 0 82 M) H → va_D A (pool cy ad 0 82 M) → va_S A s.heap H locs → ∀ (ls : Array Slot), lv_has ls 8 [(0, .ref (ad 0)), (3, .int x3), (4, .int x4), (5, .ref (ad j5)), (6, .int x6), (7, .int x7)] → k69 j5 x6 x7 M = some (rr, M') → W p l e ({ frames := 3, cells := 0, slots := 0, locals := 66 } : Room) s m args below meth c H locs 0 0 (MQ below (va_Qi (fun (x : Int32) (_ : Unit) => x = rr) (fun _ t => PA D cy ad 0 82 A M' t) A) args s 0 0 A) (F0 m 69 ls [])) {j5 : Nat} {x6 : Int32} {x7 : Int32} (hk_j5 : kd j5 = 1) {H : Heap} {locs : List Loc} (hP : va_P D vwCl (pool cy ad 0 82 M) H) (hD : va_D A (pool cy ad 0 82 M)) (hS : va_S A s.heap H locs) {ls : Array Slot} (hl : lv_has ls 8 [(0, .ref (ad 0)), (3, .int x3), (4, .int x4), (5, .ref (ad j5)), (6, .int x6), (7, .int x7)]) (h : b_X5_sleepersBy_138 N x1 x2 x3 x4 k69 j5 x6 x7 M = some (rr, M')) : W p l e ({ frames := 3, cells := 0, slots := 0, locals := 66 } : Room) s m args below meth c H locs 0 0 (MQ below (va_Qi (fun (x : Int32) (_ : Unit) => x = rr) (fun _ t => PA D cy ad 0 82 A M' t) A) args s 0 0 A) (F0 m 138 ls []) := by
  obtain ⟨hx, hb, hml, hown, hts, hr, hlk, hK, hN, hA, hX⟩ := id C
  unfold b_X5_sleepersBy_138 at h
  refine lv_iinc (v := (x7 + (1 : Int32))) (lv' := [(7, .int (x7 + (1 : Int32))), (0, .ref (ad 0)), (3, .int x3), (4, .int x4), (5, .ref (ad j5)), (6, .int x6)]) hx hb dX5_sleepersBy_138 hl (k := 5) rfl rfl (by decide) rfl (fun ls hl => ?_)
  refine lv_goto (tgt := 69) hx hb dX5_sleepersBy_141 (by decide) ?_
  exact hk69 _ _ _ hk_j5 _ _ _ hP hD hS _ (lv_sub hl [1, 2, 3, 4, 5, 0] rfl) h
def b_X5_sleepersBy_69 (N : Nat) (x1 : Int32) (x2 : Int32) (x3 : Int32) (x4 : Int32) : Nat → Nat → Int32 → Int32 → Mem → Option (Int32 × Mem)
  | 0, _, _, _, _ => none
  | fu + 1, j5, x6, x7, M => (if x4 ≤ x7 then some (x6, M) else (f_X1_has j5 x3 M).bind fun r79 => (if r79 = true then (f_X1_has j5 ((x3 + ((2 : Int32) * x7)) + (1 : Int32)) M).bind fun r95 => (if r95 = true then (f_X1_read j5 (x3 + ((2 : Int32) * x7)) M).bind fun r113 => (f_X1_read j5 ((x3 + ((2 : Int32) * x7)) + (1 : Int32)) M).bind fun r126 => bd2 (f_X5_sleeper r113 r126 M) fun r129 M129 => (if r129 < 0 then b_X5_sleepersBy_138 N x1 x2 x3 x4 (b_X5_sleepersBy_69 N x1 x2 x3 x4 fu) j5 x6 x7 M129 else b_X5_sleepersBy_138 N x1 x2 x3 x4 (b_X5_sleepersBy_69 N x1 x2 x3 x4 fu) j5 (x6 + (1 : Int32)) x7 M129) else some ((-12 : Int32), M)) else some ((-12 : Int32), M)))
set_option maxHeartbeats 4000000 in
set_option maxRecDepth 100000 in
theorem w_X5_sleepersBy_69 (C : CX p s m args meth c cX5_sleepersBy 8 (some .int) RX5 D cy ad zz 0 82 A) {N : Nat} {x1 : Int32} {x2 : Int32} {x3 : Int32} {x4 : Int32} {rr : Int32} {M' : Mem}  : ∀ (fu : Nat), ∀ (j5 : Nat), ∀ (x6 : Int32), ∀ (x7 : Int32), kd j5 = 1 → ∀ (M : Mem), ∀ (H : Heap) (locs : List Loc), va_P D vwCl (pool cy ad 0 82 M) H → va_D A (pool cy ad 0 82 M) → va_S A s.heap H locs → ∀ (ls : Array Slot), lv_has ls 8 [(0, .ref (ad 0)), (3, .int x3), (4, .int x4), (5, .ref (ad j5)), (6, .int x6), (7, .int x7)] → b_X5_sleepersBy_69 N x1 x2 x3 x4 fu j5 x6 x7 M = some (rr, M') → W p l e ({ frames := 3, cells := 0, slots := 0, locals := 66 } : Room) s m args below meth c H locs 0 0 (MQ below (va_Qi (fun (x : Int32) (_ : Unit) => x = rr) (fun _ t => PA D cy ad 0 82 A M' t) A) args s 0 0 A) (F0 m 69 ls []) := by
  obtain ⟨hx, hb, hml, hown, hts, hr, hlk, hK, hN, hA, hX⟩ := id C
  intro fu
  induction fu with
  | zero =>
    intro j5 x6 x7 hk_j5 M H locs hP hD hS ls hl h
    exact no_some (show none = some _ from h)
  | succ fu ih =>
    intro j5 x6 x7 hk_j5 M H locs hP hD hS ls hl h
    rw [b_X5_sleepersBy_69] at h
    refine lv_iload hx hb dX5_sleepersBy_69 (lv_at hl 5 rfl) ?_
    refine lv_iload hx hb dX5_sleepersBy_71 (lv_at hl 2 rfl) ?_
    refine lv_icmp_ge (tgt := 144) hx hb dX5_sleepersBy_73 (by decide) (fun c73 => ?_) (fun c73 => ?_)
    · replace h := it_t c73 h
      refine lv_iload hx hb dX5_sleepersBy_144 (lv_at hl 4 rfl) ?_
      exact rt_i (r := x6) C hP hD hS dX5_sleepersBy_146 (rw_end h)
    · replace h := it_f c73 h
      refine lv_aload hx hb dX5_sleepersBy_76 (lv_at hl 3 rfl) ?_
      refine lv_iload_n hx hb dX5_sleepersBy_78 rfl (lv_at hl 1 rfl) ?_
      obtain ⟨r79, g79, h⟩ := bd_of h
      refine call_iV (As := [.int x3]) (rest := []) C hP hD hS (c_X1_has hk_j5 g79) (p_1 hk_j5) ⟨1, _, _, ent_1 hk_j5, rfl, rfl⟩ (gV wd_806 wd_568 wd_569 wd_68 wd_570) ev_X1_has ⟨rfl, rfl⟩ ⟨Nat.le_of_ble_eq_true rfl, Nat.le_of_ble_eq_true rfl⟩ hl.1 rfl (Nat.le_of_ble_eq_true rfl) dX5_sleepersBy_79 (fun H locs hP hD hS => ?_)
      refine lv_if_eq (tgt := 101) hx hb dX5_sleepersBy_82 (by decide) (fun c82 => ?_) (fun c82 => ?_)
      · replace h := it_f (b2i_n c82) h
        refine lv_bipush (v := -12) hx hb dX5_sleepersBy_101 (by decide) ?_
        exact rt_i (r := (-12 : Int32)) C hP hD hS dX5_sleepersBy_103 (rw_end h)
      · replace h := it_t (b2i_1 c82) h
        refine lv_aload hx hb dX5_sleepersBy_85 (lv_at hl 3 rfl) ?_
        refine lv_iload_n hx hb dX5_sleepersBy_87 rfl (lv_at hl 1 rfl) ?_
        refine lv_iconst (v := 2) hx hb dX5_sleepersBy_88 (by decide) ?_
        refine lv_iload hx hb dX5_sleepersBy_89 (lv_at hl 5 rfl) ?_
        refine lv_imul hx hb dX5_sleepersBy_91 ?_
        refine lv_iadd hx hb dX5_sleepersBy_92 ?_
        refine lv_iconst (v := 1) hx hb dX5_sleepersBy_93 (by decide) ?_
        refine lv_iadd hx hb dX5_sleepersBy_94 ?_
        obtain ⟨r95, g95, h⟩ := bd_of h
        refine call_iV (As := [.int ((x3 + ((2 : Int32) * x7)) + (1 : Int32))]) (rest := []) C hP hD hS (c_X1_has hk_j5 g95) (p_1 hk_j5) ⟨1, _, _, ent_1 hk_j5, rfl, rfl⟩ (gV wd_806 wd_568 wd_569 wd_68 wd_570) ev_X1_has ⟨rfl, rfl⟩ ⟨Nat.le_of_ble_eq_true rfl, Nat.le_of_ble_eq_true rfl⟩ hl.1 rfl (Nat.le_of_ble_eq_true rfl) dX5_sleepersBy_95 (fun H locs hP hD hS => ?_)
        refine lv_if_ne (tgt := 104) hx hb dX5_sleepersBy_98 (by decide) (fun c98 => ?_) (fun c98 => ?_)
        · replace h := it_t (b2i_1 c98) h
          refine lv_aload_n hx hb dX5_sleepersBy_104 rfl (lv_at hl 0 rfl) ?_
          refine lv_aload hx hb dX5_sleepersBy_105 (lv_at hl 3 rfl) ?_
          refine lv_iload_n hx hb dX5_sleepersBy_107 rfl (lv_at hl 1 rfl) ?_
          refine lv_iconst (v := 2) hx hb dX5_sleepersBy_108 (by decide) ?_
          refine lv_iload hx hb dX5_sleepersBy_109 (lv_at hl 5 rfl) ?_
          refine lv_imul hx hb dX5_sleepersBy_111 ?_
          refine lv_iadd hx hb dX5_sleepersBy_112 ?_
          obtain ⟨r113, g113, h⟩ := bd_of h
          refine call_iV (As := [.int (x3 + ((2 : Int32) * x7))]) (rest := [.ref (ad 0)]) C hP hD hS (c_X1_read hk_j5 g113) (p_1 hk_j5) ⟨1, _, _, ent_1 hk_j5, rfl, rfl⟩ (gV wd_733 wd_564 wd_565 wd_68 wd_566) ev_X1_read ⟨rfl, rfl⟩ ⟨Nat.le_of_ble_eq_true rfl, Nat.le_of_ble_eq_true rfl⟩ hl.1 rfl (Nat.le_of_ble_eq_true rfl) dX5_sleepersBy_113 (fun H locs hP hD hS => ?_)
          refine lv_aload hx hb dX5_sleepersBy_116 (lv_at hl 3 rfl) ?_
          refine lv_iload_n hx hb dX5_sleepersBy_118 rfl (lv_at hl 1 rfl) ?_
          refine lv_iconst (v := 2) hx hb dX5_sleepersBy_119 (by decide) ?_
          refine lv_iload hx hb dX5_sleepersBy_120 (lv_at hl 5 rfl) ?_
          refine lv_imul hx hb dX5_sleepersBy_122 ?_
          refine lv_iadd hx hb dX5_sleepersBy_123 ?_
          refine lv_iconst (v := 1) hx hb dX5_sleepersBy_124 (by decide) ?_
          refine lv_iadd hx hb dX5_sleepersBy_125 ?_
          obtain ⟨r126, g126, h⟩ := bd_of h
          refine call_iV (As := [.int ((x3 + ((2 : Int32) * x7)) + (1 : Int32))]) (rest := [.int r113, .ref (ad 0)]) C hP hD hS (c_X1_read hk_j5 g126) (p_1 hk_j5) ⟨1, _, _, ent_1 hk_j5, rfl, rfl⟩ (gV wd_733 wd_564 wd_565 wd_68 wd_566) ev_X1_read ⟨rfl, rfl⟩ ⟨Nat.le_of_ble_eq_true rfl, Nat.le_of_ble_eq_true rfl⟩ hl.1 rfl (Nat.le_of_ble_eq_true rfl) dX5_sleepersBy_126 (fun H locs hP hD hS => ?_)
          obtain ⟨r129, M129, g129, h⟩ := bd2_of h
          refine call_iV (As := [.int r113, .int r126]) (rest := []) C hP hD hS (c_X5_sleeper g129) (iL (by decide)) ⟨5, _, _, ent_5 (by decide), rfl, rfl⟩ (gV wd_820 wd_489 wd_490 wd_64 wd_491) ev_X5_sleeper ⟨rfl, rfl⟩ ⟨Nat.le_of_ble_eq_true rfl, Nat.le_of_ble_eq_true rfl⟩ hl.1 rfl (Nat.le_of_ble_eq_true rfl) dX5_sleepersBy_129 (fun H locs hP hD hS => ?_)
          refine lv_if_lt (tgt := 138) hx hb dX5_sleepersBy_132 (by decide) (fun c132 => ?_) (fun c132 => ?_)
          · replace h := it_t c132 h
            exact w_X5_sleepersBy_138 C ih hk_j5 hP hD hS hl h
          · replace h := it_f c132 h
            refine lv_iinc (v := (x6 + (1 : Int32))) (lv' := [(6, .int (x6 + (1 : Int32))), (0, .ref (ad 0)), (3, .int x3), (4, .int x4), (5, .ref (ad j5)), (7, .int x7)]) hx hb dX5_sleepersBy_135 hl (k := 4) rfl rfl (by decide) rfl (fun ls hl => ?_)
            exact w_X5_sleepersBy_138 C ih hk_j5 hP hD hS (lv_sub hl [1, 2, 3, 4, 0, 5] rfl) h
        · replace h := it_f (b2i_n c98) h
          refine lv_bipush (v := -12) hx hb dX5_sleepersBy_101 (by decide) ?_
          exact rt_i (r := (-12 : Int32)) C hP hD hS dX5_sleepersBy_103 (rw_end h)
def b_X5_sleepersBy_0 (N : Nat) (x1 : Int32) (x2 : Int32) (x3 : Int32) (x4 : Int32) (M : Mem) : Option (Int32 × Mem) := (f_X5_isSheet x1 M).bind fun r1 => (if r1 = true then (if x2 < 0 then some ((-2 : Int32), M) else (if (2 : Int32) < x2 then some ((-2 : Int32), M) else (if x4 < 0 then some ((-2 : Int32), M) else (if x4 ≤ (6 : Int32) then gd (inb x1 (len 73)) (gd (isK (AR 73 x1.toNatClampNeg) 1) ((if (FI M (AR 73 x1.toNatClampNeg) 0) = (-1 : Int32) then some ((-11 : Int32), M) else (if (FI M (AR 73 x1.toNatClampNeg) 0) = x2 then b_X5_sleepersBy_69 N x1 x2 x3 x4 N (AR 73 x1.toNatClampNeg) (0 : Int32) (0 : Int32) M else some ((-13 : Int32), M))))) else some ((-2 : Int32), M))))) else some ((-2 : Int32), M))
set_option maxHeartbeats 4000000 in
set_option maxRecDepth 100000 in
theorem w_X5_sleepersBy_0 (C : CX p s m args meth c cX5_sleepersBy 8 (some .int) RX5 D cy ad zz 0 82 A) {N : Nat} {M : Mem} {x1 : Int32} {x2 : Int32} {x3 : Int32} {x4 : Int32} {rr : Int32} {M' : Mem} {H : Heap} {locs : List Loc} (hP : va_P D vwCl (pool cy ad 0 82 M) H) (hD : va_D A (pool cy ad 0 82 M)) (hS : va_S A s.heap H locs) {ls : Array Slot} (hl : lv_has ls 8 [(0, .ref (ad 0)), (1, .int x1), (2, .int x2), (3, .int x3), (4, .int x4)]) (h : b_X5_sleepersBy_0 N x1 x2 x3 x4 M = some (rr, M')) : W p l e ({ frames := 3, cells := 0, slots := 0, locals := 66 } : Room) s m args below meth c H locs 0 0 (MQ below (va_Qi (fun (x : Int32) (_ : Unit) => x = rr) (fun _ t => PA D cy ad 0 82 A M' t) A) args s 0 0 A) (F0 m 0 ls []) := by
  obtain ⟨hx, hb, hml, hown, hts, hr, hlk, hK, hN, hA, hX⟩ := id C
  unfold b_X5_sleepersBy_0 at h
  refine lv_iload_n hx hb dX5_sleepersBy_0 rfl (lv_at hl 1 rfl) ?_
  obtain ⟨r1, g1, h⟩ := bd_of h
  refine call_iS (As := [.int x1]) (rest := []) C hP hD hS (c_X5_isSheet g1) (gS wd_556 wd_557 wd_64 wd_558) es_X5_isSheet ⟨rfl, rfl⟩ ⟨Nat.le_of_ble_eq_true rfl, Nat.le_of_ble_eq_true rfl⟩ hl.1 rfl (Nat.le_of_ble_eq_true rfl) dX5_sleepersBy_1 (fun H locs hP hD hS => ?_)
  refine lv_if_eq (tgt := 28) hx hb dX5_sleepersBy_4 (by decide) (fun c4 => ?_) (fun c4 => ?_)
  · replace h := it_f (b2i_n c4) h
    refine lv_bipush (v := -2) hx hb dX5_sleepersBy_28 (by decide) ?_
    exact rt_i (r := (-2 : Int32)) C hP hD hS dX5_sleepersBy_30 (rw_end h)
  · replace h := it_t (b2i_1 c4) h
    refine lv_iload_n hx hb dX5_sleepersBy_7 rfl (lv_at hl 2 rfl) ?_
    refine lv_if_lt (tgt := 28) hx hb dX5_sleepersBy_8 (by decide) (fun c8 => ?_) (fun c8 => ?_)
    · replace h := it_t c8 h
      refine lv_bipush (v := -2) hx hb dX5_sleepersBy_28 (by decide) ?_
      exact rt_i (r := (-2 : Int32)) C hP hD hS dX5_sleepersBy_30 (rw_end h)
    · replace h := it_f c8 h
      refine lv_iload_n hx hb dX5_sleepersBy_11 rfl (lv_at hl 2 rfl) ?_
      refine lv_iconst (v := 2) hx hb dX5_sleepersBy_12 (by decide) ?_
      refine lv_icmp_gt (tgt := 28) hx hb dX5_sleepersBy_13 (by decide) (fun c13 => ?_) (fun c13 => ?_)
      · replace h := it_t c13 h
        refine lv_bipush (v := -2) hx hb dX5_sleepersBy_28 (by decide) ?_
        exact rt_i (r := (-2 : Int32)) C hP hD hS dX5_sleepersBy_30 (rw_end h)
      · replace h := it_f c13 h
        refine lv_iload hx hb dX5_sleepersBy_16 (lv_at hl 4 rfl) ?_
        refine lv_if_lt (tgt := 28) hx hb dX5_sleepersBy_18 (by decide) (fun c18 => ?_) (fun c18 => ?_)
        · replace h := it_t c18 h
          refine lv_bipush (v := -2) hx hb dX5_sleepersBy_28 (by decide) ?_
          exact rt_i (r := (-2 : Int32)) C hP hD hS dX5_sleepersBy_30 (rw_end h)
        · replace h := it_f c18 h
          refine lv_iload hx hb dX5_sleepersBy_21 (lv_at hl 4 rfl) ?_
          refine lv_bipush (v := 6) hx hb dX5_sleepersBy_23 (by decide) ?_
          refine lv_icmp_le (tgt := 31) hx hb dX5_sleepersBy_25 (by decide) (fun c25 => ?_) (fun c25 => ?_)
          · replace h := it_t c25 h
            refine lv_aload_n hx hb dX5_sleepersBy_31 rfl (lv_at hl 0 rfl) ?_
            refine gf_5_7 C hP (iL (by decide)) (by decide) wd_381 dX5_sleepersBy_32 ?_
            refine lv_iload_n hx hb dX5_sleepersBy_35 rfl (lv_at hl 1 rfl) ?_
            obtain ⟨gi1, h⟩ := gd_of h
            refine aa_9 C hP (iL (by decide)) (by decide) gi1 dX5_sleepersBy_36 ?_
            refine lv_astore (lv' := [(5, .ref (ad (AR 73 x1.toNatClampNeg))), (0, .ref (ad 0)), (1, .int x1), (2, .int x2), (3, .int x3), (4, .int x4)]) hx hb dX5_sleepersBy_37 hl (by decide) rfl (fun ls hl => ?_)
            refine lv_aload hx hb dX5_sleepersBy_39 (lv_at hl 0 rfl) ?_
            obtain ⟨gk2, h⟩ := gd_of h
            refine gf_1_0 C hP (p_1 (isK_of gk2)) (isK_of gk2) wd_197 dX5_sleepersBy_41 ?_
            refine lv_iconst (v := -1) hx hb dX5_sleepersBy_44 (by decide) ?_
            refine lv_icmp_ne (tgt := 51) hx hb dX5_sleepersBy_45 (by decide) (fun c45 => ?_) (fun c45 => ?_)
            · replace h := it_f c45 h
              refine lv_aload hx hb dX5_sleepersBy_51 (lv_at hl 0 rfl) ?_
              refine gf_1_0 C hP (p_1 (isK_of gk2)) (isK_of gk2) wd_197 dX5_sleepersBy_53 ?_
              refine lv_iload_n hx hb dX5_sleepersBy_56 rfl (lv_at hl 3 rfl) ?_
              refine lv_icmp_eq (tgt := 63) hx hb dX5_sleepersBy_57 (by decide) (fun c57 => ?_) (fun c57 => ?_)
              · replace h := it_t c57 h
                refine lv_iconst (v := 0) hx hb dX5_sleepersBy_63 (by decide) ?_
                refine lv_istore (lv' := [(6, .int (0 : Int32)), (5, .ref (ad (AR 73 x1.toNatClampNeg))), (0, .ref (ad 0)), (1, .int x1), (2, .int x2), (3, .int x3), (4, .int x4)]) hx hb dX5_sleepersBy_64 hl (by decide) rfl (fun ls hl => ?_)
                refine lv_iconst (v := 0) hx hb dX5_sleepersBy_66 (by decide) ?_
                refine lv_istore (lv' := [(7, .int (0 : Int32)), (6, .int (0 : Int32)), (5, .ref (ad (AR 73 x1.toNatClampNeg))), (0, .ref (ad 0)), (1, .int x1), (2, .int x2), (3, .int x3), (4, .int x4)]) hx hb dX5_sleepersBy_67 hl (by decide) rfl (fun ls hl => ?_)
                exact w_X5_sleepersBy_69 C N _ _ _ (isK_of gk2) _ _ _ hP hD hS _ (lv_sub hl [3, 6, 7, 2, 1, 0] rfl) h
              · replace h := it_f c57 h
                refine lv_bipush (v := -13) hx hb dX5_sleepersBy_60 (by decide) ?_
                exact rt_i (r := (-13 : Int32)) C hP hD hS dX5_sleepersBy_62 (rw_end h)
            · replace h := it_t c45 h
              refine lv_bipush (v := -11) hx hb dX5_sleepersBy_48 (by decide) ?_
              exact rt_i (r := (-11 : Int32)) C hP hD hS dX5_sleepersBy_50 (rw_end h)
          · replace h := it_f c25 h
            refine lv_bipush (v := -2) hx hb dX5_sleepersBy_28 (by decide) ?_
            exact rt_i (r := (-2 : Int32)) C hP hD hS dX5_sleepersBy_30 (rw_end h)
def f_X5_sleepersBy (N : Nat) (x1 : Int32) (x2 : Int32) (x3 : Int32) (x4 : Int32) (M : Mem) : Option (Int32 × Mem) := b_X5_sleepersBy_0 N x1 x2 x3 x4 M
theorem c_X5_sleepersBy {l : Launch} {D : va_G} {cy : Nat → ClassId} {ad : Nat → Nat} {zz : (Nat → Nat) × (Nat → Nat)} {N : Nat} {x1 : Int32} {x2 : Int32} {x3 : Int32} {x4 : Int32} {M : Mem} {rr : Int32} {M' : Mem} (h : f_X5_sleepersBy N x1 x2 x3 x4 M = some (rr, M')) : CTi l D cy ad zz 0 82 yX5_sleepersBy (.code yX5_sleepersBy cX5_sleepersBy 8 (some .int) :: tb) ({ frames := 3, cells := 0, slots := 0, locals := 66 } : Room) [.ref (ad 0), .int x1, .int x2, .int x3, .int x4] M rr M' := by
  intro sz
  refine CX.of (by decide +kernel) (fun p e s m args below meth c H ls C hP hD hS hl => ?_) (Nat.le_of_ble_eq_true rfl)
  exact w_X5_sleepersBy_0 C hP hD hS hl h
theorem ev_X5_sleepersBy : yX5_sleepersBy.cls = RX5 ∧ yX5_sleepersBy.cls ≠ "java/lang/invoke/MethodHandle" ∧ yX5_sleepersBy.cls ≠ "java/lang/invoke/VarHandle" ∧ (parseMethodDescriptor yX5_sleepersBy.desc).map (fun d => d.parameters.length) = some 4 := by decide +kernel
def b_X5_taken_54 (M : Mem) (x1 : Int32) (x2 : Int32) (x3 : Int32) (t1 : Int32) : Option (Int32) := (f_X4_numbered 1 t1 M).bind fun r54 => (oc r54 (some (-11 : Int32)) (fun (j61 : Nat) => (if x3 = 0 then (if (6 : Int32) ≤ x2 then some (-13 : Int32) else gd (isK j61 2) ((f_X2_isA j61 x2 M).bind fun r97 => (if r97 = true then some x1 else some (-13 : Int32)))) else (if x2 = (6 : Int32) then gd (isK j61 2) (some (FI M j61 6)) else some (-13 : Int32)))))
set_option maxHeartbeats 4000000 in
set_option maxRecDepth 100000 in
theorem w_X5_taken_54 (C : CX p s m args meth c cX5_taken 5 (some .int) RX5 D cy ad zz 0 82 A) {M : Mem} {x1 : Int32} {x2 : Int32} {rr : Int32} {x3 : Int32} {t1 : Int32} {H : Heap} {locs : List Loc} (hP : va_P D vwCl (pool cy ad 0 82 M) H) (hD : va_D A (pool cy ad 0 82 M)) (hS : va_S A s.heap H locs) {ls : Array Slot} (hl : lv_has ls 5 [(1, .int x1), (2, .int x2), (3, .int x3)]) (h : b_X5_taken_54 M x1 x2 x3 t1 = some rr) : W p l e ({ frames := 1, cells := 0, slots := 0, locals := 21 } : Room) s m args below meth c H locs 0 0 (MQ below (va_Qi (fun (x : Int32) (_ : Unit) => x = rr) (fun _ t => PA D cy ad 0 82 A M t) A) args s 0 0 A) (F0 m 54 ls [.int t1, .ref (ad 1)]) := by
  obtain ⟨hx, hb, hml, hown, hts, hr, hlk, hK, hN, hA, hX⟩ := id C
  unfold b_X5_taken_54 at h
  obtain ⟨r54, g54, h⟩ := bd_of h
  refine call_qV (As := [.int t1]) (rest := []) C hP hD hS (c_X4_numbered (by decide) g54) (iL (by decide)) ⟨4, _, _, ent_4 (by decide), rfl, rfl⟩ (gV wd_455 wd_456 wd_457 wd_65 wd_458) ev_X4_numbered ⟨rfl, rfl⟩ ⟨Nat.le_of_ble_eq_true rfl, Nat.le_of_ble_eq_true rfl⟩ hl.1 rfl (Nat.le_of_ble_eq_true rfl) dX5_taken_54 (fun H locs hP hD hS => ?_)
  refine nq_astore (lv' := [(4, va_re ad r54), (1, .int x1), (2, .int x2), (3, .int x3)]) hx hb dX5_taken_57 hl (by decide) rfl (fun ls hl => ?_)
  refine nq_aload hx hb dX5_taken_59 (lv_at hl 0 rfl) ?_
  cases r54 with
  | none =>
    replace h := oc_n h
    have hl : lv_has ls 5 [(4, .null), (1, .int x1), (2, .int x2), (3, .int x3)] := hl
    refine W.eq (g2 := F0 m 61 ls [.null]) rfl ?_
    refine lv_ifnonnullN hx hb dX5_taken_61 ?_
    refine lv_bipush (v := -11) hx hb dX5_taken_64 (by decide) ?_
    exact rt_i (r := (-11 : Int32)) C hP hD hS dX5_taken_66 ⟨Option.some.inj h, rfl⟩
  | some j61 =>
    replace h := oc_s h
    have hl : lv_has ls 5 [(4, .ref (ad j61)), (1, .int x1), (2, .int x2), (3, .int x3)] := hl
    refine W.eq (g2 := F0 m 61 ls [.ref (ad j61)]) rfl ?_
    refine lv_ifnonnull (tgt := 67) hx hb dX5_taken_61 (by decide) ?_
    refine lv_iload_n hx hb dX5_taken_67 rfl (lv_at hl 3 rfl) ?_
    refine lv_if_eq (tgt := 88) hx hb dX5_taken_68 (by decide) (fun c68 => ?_) (fun c68 => ?_)
    · replace h := it_t c68 h
      refine lv_iload_n hx hb dX5_taken_88 rfl (lv_at hl 2 rfl) ?_
      refine lv_bipush (v := 6) hx hb dX5_taken_89 (by decide) ?_
      refine lv_icmp_ge (tgt := 107) hx hb dX5_taken_91 (by decide) (fun c91 => ?_) (fun c91 => ?_)
      · replace h := it_t c91 h
        refine lv_bipush (v := -13) hx hb dX5_taken_107 (by decide) ?_
        exact rt_i (r := (-13 : Int32)) C hP hD hS dX5_taken_109 ⟨Option.some.inj h, rfl⟩
      · replace h := it_f c91 h
        refine lv_aload hx hb dX5_taken_94 (lv_at hl 0 rfl) ?_
        refine lv_iload_n hx hb dX5_taken_96 rfl (lv_at hl 2 rfl) ?_
        obtain ⟨gk1, h⟩ := gd_of h
        obtain ⟨r97, g97, h⟩ := bd_of h
        refine call_iV (As := [.int x2]) (rest := []) C hP hD hS (c_X2_isA (isK_of gk1) g97) (p_2 (isK_of gk1)) ⟨2, _, _, ent_2 (isK_of gk1), rfl, rfl⟩ (gV wd_825 wd_826 wd_827 wd_66 wd_828) ev_X2_isA ⟨rfl, rfl⟩ ⟨Nat.le_of_ble_eq_true rfl, Nat.le_of_ble_eq_true rfl⟩ hl.1 rfl (Nat.le_of_ble_eq_true rfl) dX5_taken_97 (fun H locs hP hD hS => ?_)
        refine lv_if_eq (tgt := 107) hx hb dX5_taken_100 (by decide) (fun c100 => ?_) (fun c100 => ?_)
        · replace h := it_f (b2i_n c100) h
          refine lv_bipush (v := -13) hx hb dX5_taken_107 (by decide) ?_
          exact rt_i (r := (-13 : Int32)) C hP hD hS dX5_taken_109 ⟨Option.some.inj h, rfl⟩
        · replace h := it_t (b2i_1 c100) h
          refine lv_iload_n hx hb dX5_taken_103 rfl (lv_at hl 1 rfl) ?_
          refine lv_goto (tgt := 109) hx hb dX5_taken_104 (by decide) ?_
          exact rt_i (r := x1) C hP hD hS dX5_taken_109 ⟨Option.some.inj h, rfl⟩
    · replace h := it_f c68 h
      refine lv_iload_n hx hb dX5_taken_71 rfl (lv_at hl 2 rfl) ?_
      refine lv_bipush (v := 6) hx hb dX5_taken_72 (by decide) ?_
      refine lv_icmp_ne (tgt := 85) hx hb dX5_taken_74 (by decide) (fun c74 => ?_) (fun c74 => ?_)
      · replace h := it_f c74 h
        refine lv_bipush (v := -13) hx hb dX5_taken_85 (by decide) ?_
        exact rt_i (r := (-13 : Int32)) C hP hD hS dX5_taken_87 ⟨Option.some.inj h, rfl⟩
      · replace h := it_t c74 h
        refine lv_aload hx hb dX5_taken_77 (lv_at hl 0 rfl) ?_
        obtain ⟨gk2, h⟩ := gd_of h
        refine gf_2_6 C hP (p_2 (isK_of gk2)) (isK_of gk2) wd_114 dX5_taken_79 ?_
        refine lv_goto (tgt := 87) hx hb dX5_taken_82 (by decide) ?_
        exact rt_i (r := (FI M j61 6)) C hP hD hS dX5_taken_87 ⟨Option.some.inj h, rfl⟩
def b_X5_taken_37 (M : Mem) (x1 : Int32) (x2 : Int32) (t0 : Int32) : Option (Int32) := (if t0 = 0 then b_X5_taken_54 M x1 x2 t0 x1 else b_X5_taken_54 M x1 x2 t0 (x1 - (6 : Int32)))
set_option maxHeartbeats 4000000 in
set_option maxRecDepth 100000 in
theorem w_X5_taken_37 (C : CX p s m args meth c cX5_taken 5 (some .int) RX5 D cy ad zz 0 82 A) {M : Mem} {x1 : Int32} {x2 : Int32} {rr : Int32} {t0 : Int32} {H : Heap} {locs : List Loc} (hP : va_P D vwCl (pool cy ad 0 82 M) H) (hD : va_D A (pool cy ad 0 82 M)) (hS : va_S A s.heap H locs) {ls : Array Slot} (hl : lv_has ls 5 [(0, .ref (ad 0)), (1, .int x1), (2, .int x2)]) (h : b_X5_taken_37 M x1 x2 t0 = some rr) : W p l e ({ frames := 1, cells := 0, slots := 0, locals := 21 } : Room) s m args below meth c H locs 0 0 (MQ below (va_Qi (fun (x : Int32) (_ : Unit) => x = rr) (fun _ t => PA D cy ad 0 82 A M t) A) args s 0 0 A) (F0 m 37 ls [.int t0]) := by
  obtain ⟨hx, hb, hml, hown, hts, hr, hlk, hK, hN, hA, hX⟩ := id C
  unfold b_X5_taken_37 at h
  refine lv_istore_n (lv' := [(3, .int t0), (0, .ref (ad 0)), (1, .int x1), (2, .int x2)]) hx hb dX5_taken_37 rfl hl (by decide) rfl (fun ls hl => ?_)
  refine lv_aload_n hx hb dX5_taken_38 rfl (lv_at hl 1 rfl) ?_
  refine gf_5_0 C hP (iL (by decide)) (by decide) wd_374 dX5_taken_39 ?_
  refine lv_iload_n hx hb dX5_taken_42 rfl (lv_at hl 0 rfl) ?_
  refine lv_if_eq (tgt := 53) hx hb dX5_taken_43 (by decide) (fun c43 => ?_) (fun c43 => ?_)
  · replace h := it_t c43 h
    refine lv_iload_n hx hb dX5_taken_53 rfl (lv_at hl 2 rfl) ?_
    exact w_X5_taken_54 C hP hD hS (lv_sub hl [2, 3, 0] rfl) h
  · replace h := it_f c43 h
    refine lv_iload_n hx hb dX5_taken_46 rfl (lv_at hl 2 rfl) ?_
    refine lv_bipush (v := 6) hx hb dX5_taken_47 (by decide) ?_
    refine lv_isub hx hb dX5_taken_49 ?_
    refine lv_goto (tgt := 54) hx hb dX5_taken_50 (by decide) ?_
    exact w_X5_taken_54 C hP hD hS (lv_sub hl [2, 3, 0] rfl) h
def b_X5_taken_0 (M : Mem) (x1 : Int32) (x2 : Int32) : Option (Int32) := (if x2 < 0 then some (-2 : Int32) else (if x2 ≤ (6 : Int32) then (if x1 < 0 then some (-12 : Int32) else (if x1 < (12 : Int32) then (if x1 < (6 : Int32) then b_X5_taken_37 M x1 x2 (0 : Int32) else b_X5_taken_37 M x1 x2 (1 : Int32)) else some (-12 : Int32))) else some (-2 : Int32)))
set_option maxHeartbeats 4000000 in
set_option maxRecDepth 100000 in
theorem w_X5_taken_0 (C : CX p s m args meth c cX5_taken 5 (some .int) RX5 D cy ad zz 0 82 A) {M : Mem} {x1 : Int32} {x2 : Int32} {rr : Int32} {H : Heap} {locs : List Loc} (hP : va_P D vwCl (pool cy ad 0 82 M) H) (hD : va_D A (pool cy ad 0 82 M)) (hS : va_S A s.heap H locs) {ls : Array Slot} (hl : lv_has ls 5 [(0, .ref (ad 0)), (1, .int x1), (2, .int x2)]) (h : b_X5_taken_0 M x1 x2 = some rr) : W p l e ({ frames := 1, cells := 0, slots := 0, locals := 21 } : Room) s m args below meth c H locs 0 0 (MQ below (va_Qi (fun (x : Int32) (_ : Unit) => x = rr) (fun _ t => PA D cy ad 0 82 A M t) A) args s 0 0 A) (F0 m 0 ls []) := by
  obtain ⟨hx, hb, hml, hown, hts, hr, hlk, hK, hN, hA, hX⟩ := id C
  unfold b_X5_taken_0 at h
  refine lv_iload_n hx hb dX5_taken_0 rfl (lv_at hl 2 rfl) ?_
  refine lv_if_lt (tgt := 10) hx hb dX5_taken_1 (by decide) (fun c1 => ?_) (fun c1 => ?_)
  · replace h := it_t c1 h
    refine lv_bipush (v := -2) hx hb dX5_taken_10 (by decide) ?_
    exact rt_i (r := (-2 : Int32)) C hP hD hS dX5_taken_12 ⟨Option.some.inj h, rfl⟩
  · replace h := it_f c1 h
    refine lv_iload_n hx hb dX5_taken_4 rfl (lv_at hl 2 rfl) ?_
    refine lv_bipush (v := 6) hx hb dX5_taken_5 (by decide) ?_
    refine lv_icmp_le (tgt := 13) hx hb dX5_taken_7 (by decide) (fun c7 => ?_) (fun c7 => ?_)
    · replace h := it_t c7 h
      refine lv_iload_n hx hb dX5_taken_13 rfl (lv_at hl 1 rfl) ?_
      refine lv_if_lt (tgt := 23) hx hb dX5_taken_14 (by decide) (fun c14 => ?_) (fun c14 => ?_)
      · replace h := it_t c14 h
        refine lv_bipush (v := -12) hx hb dX5_taken_23 (by decide) ?_
        exact rt_i (r := (-12 : Int32)) C hP hD hS dX5_taken_25 ⟨Option.some.inj h, rfl⟩
      · replace h := it_f c14 h
        refine lv_iload_n hx hb dX5_taken_17 rfl (lv_at hl 1 rfl) ?_
        refine lv_bipush (v := 12) hx hb dX5_taken_18 (by decide) ?_
        refine lv_icmp_lt (tgt := 26) hx hb dX5_taken_20 (by decide) (fun c20 => ?_) (fun c20 => ?_)
        · replace h := it_t c20 h
          refine lv_iload_n hx hb dX5_taken_26 rfl (lv_at hl 1 rfl) ?_
          refine lv_bipush (v := 6) hx hb dX5_taken_27 (by decide) ?_
          refine lv_icmp_lt (tgt := 36) hx hb dX5_taken_29 (by decide) (fun c29 => ?_) (fun c29 => ?_)
          · replace h := it_t c29 h
            refine lv_iconst (v := 0) hx hb dX5_taken_36 (by decide) ?_
            exact w_X5_taken_37 C hP hD hS hl h
          · replace h := it_f c29 h
            refine lv_iconst (v := 1) hx hb dX5_taken_32 (by decide) ?_
            refine lv_goto (tgt := 37) hx hb dX5_taken_33 (by decide) ?_
            exact w_X5_taken_37 C hP hD hS hl h
        · replace h := it_f c20 h
          refine lv_bipush (v := -12) hx hb dX5_taken_23 (by decide) ?_
          exact rt_i (r := (-12 : Int32)) C hP hD hS dX5_taken_25 ⟨Option.some.inj h, rfl⟩
    · replace h := it_f c7 h
      refine lv_bipush (v := -2) hx hb dX5_taken_10 (by decide) ?_
      exact rt_i (r := (-2 : Int32)) C hP hD hS dX5_taken_12 ⟨Option.some.inj h, rfl⟩
def f_X5_taken (x1 : Int32) (x2 : Int32) (M : Mem) : Option (Int32) := b_X5_taken_0 M x1 x2
theorem c_X5_taken {l : Launch} {D : va_G} {cy : Nat → ClassId} {ad : Nat → Nat} {zz : (Nat → Nat) × (Nat → Nat)} {x1 : Int32} {x2 : Int32} {M : Mem} {rr : Int32} (h : f_X5_taken x1 x2 M = some rr) : CTi l D cy ad zz 0 82 yX5_taken (.code yX5_taken cX5_taken 5 (some .int) :: tb) ({ frames := 1, cells := 0, slots := 0, locals := 21 } : Room) [.ref (ad 0), .int x1, .int x2] M rr M := by
  intro sz
  refine CX.of (by decide +kernel) (fun p e s m args below meth c H ls C hP hD hS hl => ?_) (Nat.le_of_ble_eq_true rfl)
  exact w_X5_taken_0 C hP hD hS hl h
theorem ev_X5_taken : yX5_taken.cls = RX5 ∧ yX5_taken.cls ≠ "java/lang/invoke/MethodHandle" ∧ yX5_taken.cls ≠ "java/lang/invoke/VarHandle" ∧ (parseMethodDescriptor yX5_taken.desc).map (fun d => d.parameters.length) = some 2 := by decide +kernel
end
