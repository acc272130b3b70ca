section
variable {p : Program} {l : Launch} {e : Env} {s : State} {m : MethodId} {args : Array Value} {below : List Frame} {meth : Method} {c : Code} {D : va_G} {cy : Nat → ClassId} {ad : Nat → Nat} {zz : (Nat → Nat) × (Nat → Nat)} {A : Nat → Prop}
def b_X3_says_231 (N : Nat) (j0 : Nat) (x1 : Int32) (j2 : Nat) (t0 : Int32) (t1 : Int32) (M : Mem) : Option (Int32 × Mem) := (f_X3_within t0 t1 M).bind fun r231 => some (r231, M)
set_option maxHeartbeats 4000000 in
set_option maxRecDepth 100000 in
theorem w_X3_says_231 (C : CX p s m args meth c cX3_says 7 (some .int) RX3 D cy ad zz 0 82 A) {N : Nat} {M : Mem} {j0 : Nat} (hk_j0 : kd j0 = 3) {x1 : Int32} {j2 : Nat} (hk_j2 : kd j2 = 2) {rr : Int32} {M' : Mem} {t0 : Int32} {t1 : Int32} {H : Heap} {locs : List Loc} (hP : va_P D vwCl (pool cy ad 0 82 M) H) (hD : va_D A (pool cy ad 0 82 M)) (hS : va_S A s.heap H locs) {ls : Array Slot} (hl : lv_has ls 7 []) (h : b_X3_says_231 N j0 x1 j2 t0 t1 M = some (rr, M')) : W p l e ({ frames := 2, cells := 0, slots := 0, locals := 44 } : Room) s m args below meth c H locs 0 0 (MQ below (va_Qi (fun (x : Int32) (_ : Unit) => x = rr) (fun _ t => PA D cy ad 0 82 A M' t) A) args s 0 0 A) (F0 m 231 ls [.int t1, .int t0]) := by
  obtain ⟨hx, hb, hml, hown, hts, hr, hlk, hK, hN, hA, hX⟩ := id C
  unfold b_X3_says_231 at h
  obtain ⟨r231, g231, h⟩ := bd_of h
  refine call_iS (As := [.int t0, .int t1]) (rest := []) C hP hD hS (c_X3_within g231) (gS wd_485 wd_486 wd_67 wd_487) es_X3_within ⟨rfl, rfl⟩ ⟨Nat.le_of_ble_eq_true rfl, Nat.le_of_ble_eq_true rfl⟩ hl.1 rfl (Nat.le_of_ble_eq_true rfl) dX3_says_231 (fun H locs hP hD hS => ?_)
  exact rt_i (r := r231) C hP hD hS dX3_says_234 (rw_end h)
def b_X3_says_209 (N : Nat) (j0 : Nat) (x1 : Int32) (j2 : Nat) (k49 : Int32 → Int32 → Int32 → Mem → Option (Int32 × Mem)) (x3 : Int32) (x4 : Int32) (x5 : Int32) (M : Mem) : Option (Int32 × Mem) := k49 x3 x4 (x5 + (1 : Int32)) M
set_option maxHeartbeats 4000000 in
set_option maxRecDepth 100000 in
theorem w_X3_says_209 (C : CX p s m args meth c cX3_says 7 (some .int) RX3 D cy ad zz 0 82 A) {N : Nat} {M : Mem} {j0 : Nat} (hk_j0 : kd j0 = 3) {x1 : Int32} {j2 : Nat} (hk_j2 : kd j2 = 2) {k49 : Int32 → Int32 → Int32 → Mem → Option (Int32 × Mem)} {rr : Int32} {M' : Mem} (hk49 : ∀ (x3 : Int32), ∀ (x4 : Int32), ∀ (x5 : Int32), ∀ (M : Mem), ∀ (H : Heap) (locs : List Loc), va_P D vwCl (pool cy ad 0 82 M) H → va_D A (pool cy ad 0 82 M) → va_S A s.heap H locs → ∀ (ls : Array Slot), lv_has ls 7 [(0, .ref (ad j0)), (1, .int x1), (2, .ref (ad j2)), (3, .int x3), (4, .int x4), (5, .int x5)] → k49 x3 x4 x5 M = some (rr, M') → W p l e ({ frames := 2, cells := 0, slots := 0, locals := 44 } : Room) s m args below meth c H locs 0 0 (MQ below (va_Qi (fun (x : Int32) (_ : Unit) => x = rr) (fun _ t => PA D cy ad 0 82 A M' t) A) args s 0 0 A) (F0 m 49 ls [])) {x3 : Int32} {x4 : Int32} {x5 : Int32} {H : Heap} {locs : List Loc} (hP : va_P D vwCl (pool cy ad 0 82 M) H) (hD : va_D A (pool cy ad 0 82 M)) (hS : va_S A s.heap H locs) {ls : Array Slot} (hl : lv_has ls 7 [(0, .ref (ad j0)), (1, .int x1), (2, .ref (ad j2)), (3, .int x3), (4, .int x4), (5, .int x5)]) (h : b_X3_says_209 N j0 x1 j2 k49 x3 x4 x5 M = some (rr, M')) : W p l e ({ frames := 2, cells := 0, slots := 0, locals := 44 } : Room) s m args below meth c H locs 0 0 (MQ below (va_Qi (fun (x : Int32) (_ : Unit) => x = rr) (fun _ t => PA D cy ad 0 82 A M' t) A) args s 0 0 A) (F0 m 209 ls []) := by
  obtain ⟨hx, hb, hml, hown, hts, hr, hlk, hK, hN, hA, hX⟩ := id C
  unfold b_X3_says_209 at h
  refine lv_iinc (v := (x5 + (1 : Int32))) (lv' := [(5, .int (x5 + (1 : Int32))), (0, .ref (ad j0)), (1, .int x1), (2, .ref (ad j2)), (3, .int x3), (4, .int x4)]) hx hb dX3_says_209 hl (k := 5) rfl rfl (by decide) rfl (fun ls hl => ?_)
  refine lv_goto (tgt := 49) hx hb dX3_says_212 (by decide) ?_
  exact hk49 _ _ _ _ _ _ hP hD hS _ (lv_sub hl [1, 2, 3, 4, 5, 0] rfl) h
def b_X3_says_118 (N : Nat) (j0 : Nat) (x1 : Int32) (j2 : Nat) (k49 : Int32 → Int32 → Int32 → Mem → Option (Int32 × Mem)) (x3 : Int32) (x4 : Int32) (x5 : Int32) (M : Mem) : Option (Int32 × Mem) := b_X3_says_209 N j0 x1 j2 k49 x3 (x4 + (1 : Int32)) x5 M
set_option maxHeartbeats 4000000 in
set_option maxRecDepth 100000 in
theorem w_X3_says_118 (C : CX p s m args meth c cX3_says 7 (some .int) RX3 D cy ad zz 0 82 A) {N : Nat} {M : Mem} {j0 : Nat} (hk_j0 : kd j0 = 3) {x1 : Int32} {j2 : Nat} (hk_j2 : kd j2 = 2) {k49 : Int32 → Int32 → Int32 → Mem → Option (Int32 × Mem)} {rr : Int32} {M' : Mem} (hk49 : ∀ (x3 : Int32), ∀ (x4 : Int32), ∀ (x5 : Int32), ∀ (M : Mem), ∀ (H : Heap) (locs : List Loc), va_P D vwCl (pool cy ad 0 82 M) H → va_D A (pool cy ad 0 82 M) → va_S A s.heap H locs → ∀ (ls : Array Slot), lv_has ls 7 [(0, .ref (ad j0)), (1, .int x1), (2, .ref (ad j2)), (3, .int x3), (4, .int x4), (5, .int x5)] → k49 x3 x4 x5 M = some (rr, M') → W p l e ({ frames := 2, cells := 0, slots := 0, locals := 44 } : Room) s m args below meth c H locs 0 0 (MQ below (va_Qi (fun (x : Int32) (_ : Unit) => x = rr) (fun _ t => PA D cy ad 0 82 A M' t) A) args s 0 0 A) (F0 m 49 ls [])) {x3 : Int32} {x4 : Int32} {x5 : Int32} {H : Heap} {locs : List Loc} (hP : va_P D vwCl (pool cy ad 0 82 M) H) (hD : va_D A (pool cy ad 0 82 M)) (hS : va_S A s.heap H locs) {ls : Array Slot} (hl : lv_has ls 7 [(0, .ref (ad j0)), (1, .int x1), (2, .ref (ad j2)), (3, .int x3), (4, .int x4), (5, .int x5)]) (h : b_X3_says_118 N j0 x1 j2 k49 x3 x4 x5 M = some (rr, M')) : W p l e ({ frames := 2, cells := 0, slots := 0, locals := 44 } : Room) s m args below meth c H locs 0 0 (MQ below (va_Qi (fun (x : Int32) (_ : Unit) => x = rr) (fun _ t => PA D cy ad 0 82 A M' t) A) args s 0 0 A) (F0 m 118 ls []) := by
  obtain ⟨hx, hb, hml, hown, hts, hr, hlk, hK, hN, hA, hX⟩ := id C
  unfold b_X3_says_118 at h
  refine lv_iinc (v := (x4 + (1 : Int32))) (lv' := [(4, .int (x4 + (1 : Int32))), (0, .ref (ad j0)), (1, .int x1), (2, .ref (ad j2)), (3, .int x3), (5, .int x5)]) hx hb dX3_says_118 hl (k := 4) rfl rfl (by decide) rfl (fun ls hl => ?_)
  refine lv_goto (tgt := 209) hx hb dX3_says_121 (by decide) ?_
  exact w_X3_says_209 C hk_j0 hk_j2 hk49 hP hD hS (lv_sub hl [1, 2, 3, 4, 0, 5] rfl) h
def b_X3_says_117 (N : Nat) (j0 : Nat) (x1 : Int32) (j2 : Nat) (k49 : Int32 → Int32 → Int32 → Mem → Option (Int32 × Mem)) (x3 : Int32) (x4 : Int32) (x5 : Int32) (t1 : Int32) (t2 : Int32) (M : Mem) : Option (Int32 × Mem) := gd (inb t1 (len 70)) (b_X3_says_118 N j0 x1 j2 k49 x3 x4 x5 (sAI M 70 t1.toNatClampNeg t2))
set_option maxHeartbeats 4000000 in
set_option maxRecDepth 100000 in
theorem w_X3_says_117 (C : CX p s m args meth c cX3_says 7 (some .int) RX3 D cy ad zz 0 82 A) {N : Nat} {M : Mem} {j0 : Nat} (hk_j0 : kd j0 = 3) {x1 : Int32} {j2 : Nat} (hk_j2 : kd j2 = 2) {k49 : Int32 → Int32 → Int32 → Mem → Option (Int32 × Mem)} {rr : Int32} {M' : Mem} (hk49 : ∀ (x3 : Int32), ∀ (x4 : Int32), ∀ (x5 : Int32), ∀ (M : Mem), ∀ (H : Heap) (locs : List Loc), va_P D vwCl (pool cy ad 0 82 M) H → va_D A (pool cy ad 0 82 M) → va_S A s.heap H locs → ∀ (ls : Array Slot), lv_has ls 7 [(0, .ref (ad j0)), (1, .int x1), (2, .ref (ad j2)), (3, .int x3), (4, .int x4), (5, .int x5)] → k49 x3 x4 x5 M = some (rr, M') → W p l e ({ frames := 2, cells := 0, slots := 0, locals := 44 } : Room) s m args below meth c H locs 0 0 (MQ below (va_Qi (fun (x : Int32) (_ : Unit) => x = rr) (fun _ t => PA D cy ad 0 82 A M' t) A) args s 0 0 A) (F0 m 49 ls [])) {x3 : Int32} {x4 : Int32} {x5 : Int32} {t1 : Int32} {t2 : Int32} {H : Heap} {locs : List Loc} (hP : va_P D vwCl (pool cy ad 0 82 M) H) (hD : va_D A (pool cy ad 0 82 M)) (hS : va_S A s.heap H locs) {ls : Array Slot} (hl : lv_has ls 7 [(0, .ref (ad j0)), (1, .int x1), (2, .ref (ad j2)), (3, .int x3), (4, .int x4), (5, .int x5)]) (h : b_X3_says_117 N j0 x1 j2 k49 x3 x4 x5 t1 t2 M = some (rr, M')) : W p l e ({ frames := 2, cells := 0, slots := 0, locals := 44 } : Room) s m args below meth c H locs 0 0 (MQ below (va_Qi (fun (x : Int32) (_ : Unit) => x = rr) (fun _ t => PA D cy ad 0 82 A M' t) A) args s 0 0 A) (F0 m 117 ls [.int t2, .int t1, .ref (ad 70)]) := by
  obtain ⟨hx, hb, hml, hown, hts, hr, hlk, hK, hN, hA, hX⟩ := id C
  unfold b_X3_says_117 at h
  obtain ⟨gi1, h⟩ := gd_of h
  refine ia_st C hP hD hS (iL (by decide)) (by decide) gi1 dX3_says_117 (fun H locs hP hD hS => ?_)
  exact w_X3_says_118 C hk_j0 hk_j2 hk49 hP hD hS hl h
def b_X3_says_75 (N : Nat) (j0 : Nat) (x1 : Int32) (j2 : Nat) (k49 : Int32 → Int32 → Int32 → Mem → Option (Int32 × Mem)) (x3 : Int32) (x4 : Int32) (x5 : Int32) (x6 : Int32) (M : Mem) : Option (Int32 × Mem) := (if (nI (len 70)) ≤ x4 then b_X3_says_209 N j0 x1 j2 k49 x3 x4 x5 M else (if x6 = 0 then gd (inb x5 (len (j0 + 12))) (b_X3_says_117 N j0 x1 j2 k49 x3 x4 x5 x4 (AI M (j0 + 12) x5.toNatClampNeg) M) else gd (inb x5 (len (j0 + 12))) ((f_X2_named j2 (AI M (j0 + 12) x5.toNatClampNeg) M).bind fun r114 => b_X3_says_117 N j0 x1 j2 k49 x3 x4 x5 x4 r114 M)))
set_option maxHeartbeats 4000000 in
set_option maxRecDepth 100000 in
theorem w_X3_says_75 (C : CX p s m args meth c cX3_says 7 (some .int) RX3 D cy ad zz 0 82 A) {N : Nat} {M : Mem} {j0 : Nat} (hk_j0 : kd j0 = 3) {x1 : Int32} {j2 : Nat} (hk_j2 : kd j2 = 2) {k49 : Int32 → Int32 → Int32 → Mem → Option (Int32 × Mem)} {rr : Int32} {M' : Mem} (hk49 : ∀ (x3 : Int32), ∀ (x4 : Int32), ∀ (x5 : Int32), ∀ (M : Mem), ∀ (H : Heap) (locs : List Loc), va_P D vwCl (pool cy ad 0 82 M) H → va_D A (pool cy ad 0 82 M) → va_S A s.heap H locs → ∀ (ls : Array Slot), lv_has ls 7 [(0, .ref (ad j0)), (1, .int x1), (2, .ref (ad j2)), (3, .int x3), (4, .int x4), (5, .int x5)] → k49 x3 x4 x5 M = some (rr, M') → W p l e ({ frames := 2, cells := 0, slots := 0, locals := 44 } : Room) s m args below meth c H locs 0 0 (MQ below (va_Qi (fun (x : Int32) (_ : Unit) => x = rr) (fun _ t => PA D cy ad 0 82 A M' t) A) args s 0 0 A) (F0 m 49 ls [])) {x3 : Int32} {x4 : Int32} {x5 : Int32} {x6 : Int32} {H : Heap} {locs : List Loc} (hP : va_P D vwCl (pool cy ad 0 82 M) H) (hD : va_D A (pool cy ad 0 82 M)) (hS : va_S A s.heap H locs) {ls : Array Slot} (hl : lv_has ls 7 [(0, .ref (ad j0)), (1, .int x1), (2, .ref (ad j2)), (3, .int x3), (4, .int x4), (5, .int x5), (6, .int x6)]) (h : b_X3_says_75 N j0 x1 j2 k49 x3 x4 x5 x6 M = some (rr, M')) : W p l e ({ frames := 2, cells := 0, slots := 0, locals := 44 } : Room) s m args below meth c H locs 0 0 (MQ below (va_Qi (fun (x : Int32) (_ : Unit) => x = rr) (fun _ t => PA D cy ad 0 82 A M' t) A) args s 0 0 A) (F0 m 75 ls []) := by
  obtain ⟨hx, hb, hml, hown, hts, hr, hlk, hK, hN, hA, hX⟩ := id C
  unfold b_X3_says_75 at h
  refine lv_iload hx hb dX3_says_75 (lv_at hl 4 rfl) ?_
  refine lv_aload_n hx hb dX3_says_77 rfl (lv_at hl 0 rfl) ?_
  refine gf_3_3 C hP (p_3 hk_j0) hk_j0 wd_177 dX3_says_78 ?_
  refine al_7 C hP (iL (by decide)) (by decide) dX3_says_81 ?_
  refine lv_icmp_ge (tgt := 209) hx hb dX3_says_82 (by decide) (fun c82 => ?_) (fun c82 => ?_)
  · replace h := it_t c82 h
    exact w_X3_says_209 C hk_j0 hk_j2 hk49 hP hD hS (lv_sub hl [0, 1, 2, 3, 4, 5] rfl) h
  · replace h := it_f c82 h
    refine lv_aload_n hx hb dX3_says_85 rfl (lv_at hl 0 rfl) ?_
    refine gf_3_3 C hP (p_3 hk_j0) hk_j0 wd_177 dX3_says_86 ?_
    refine lv_iload hx hb dX3_says_89 (lv_at hl 4 rfl) ?_
    refine lv_iload hx hb dX3_says_91 (lv_at hl 6 rfl) ?_
    refine lv_if_ne (tgt := 106) hx hb dX3_says_93 (by decide) (fun c93 => ?_) (fun c93 => ?_)
    · replace h := it_f c93 h
      refine lv_aload_n hx hb dX3_says_106 rfl (lv_at hl 2 rfl) ?_
      refine lv_aload_n hx hb dX3_says_107 rfl (lv_at hl 0 rfl) ?_
      refine gf_3_1 C hP (p_3 hk_j0) hk_j0 wd_174 dX3_says_108 ?_
      refine lv_iload hx hb dX3_says_111 (lv_at hl 5 rfl) ?_
      obtain ⟨gi1, h⟩ := gd_of h
      refine ia_ld C hP (p_3_1 hk_j0) (k_3_1 hk_j0) gi1 dX3_says_113 ?_
      obtain ⟨r114, g114, h⟩ := bd_of h
      refine call_iV (As := [.int (AI M (j0 + 12) x5.toNatClampNeg)]) (rest := [.int x4, .ref (ad 70)]) C hP hD hS (c_X2_named hk_j2 g114) (p_2 hk_j2) ⟨2, _, _, ent_2 hk_j2, rfl, rfl⟩ (gV wd_475 wd_476 wd_477 wd_66 wd_478) ev_X2_named ⟨rfl, rfl⟩ ⟨Nat.le_of_ble_eq_true rfl, Nat.le_of_ble_eq_true rfl⟩ hl.1 rfl (Nat.le_of_ble_eq_true rfl) dX3_says_114 (fun H locs hP hD hS => ?_)
      exact w_X3_says_117 C hk_j0 hk_j2 hk49 hP hD hS (lv_sub hl [0, 1, 2, 3, 4, 5] rfl) h
    · replace h := it_t c93 h
      refine lv_aload_n hx hb dX3_says_96 rfl (lv_at hl 0 rfl) ?_
      refine gf_3_1 C hP (p_3 hk_j0) hk_j0 wd_174 dX3_says_97 ?_
      refine lv_iload hx hb dX3_says_100 (lv_at hl 5 rfl) ?_
      obtain ⟨gi2, h⟩ := gd_of h
      refine ia_ld C hP (p_3_1 hk_j0) (k_3_1 hk_j0) gi2 dX3_says_102 ?_
      refine lv_goto (tgt := 117) hx hb dX3_says_103 (by decide) ?_
      exact w_X3_says_117 C hk_j0 hk_j2 hk49 hP hD hS (lv_sub hl [0, 1, 2, 3, 4, 5] rfl) h
def b_X3_says_165 (N : Nat) (j0 : Nat) (x1 : Int32) (j2 : Nat) (k49 : Int32 → Int32 → Int32 → Mem → Option (Int32 × Mem)) (x3 : Int32) (x4 : Int32) (x5 : Int32) (M : Mem) : Option (Int32 × Mem) := b_X3_says_209 N j0 x1 j2 k49 x3 x4 x5 M
set_option maxHeartbeats 4000000 in
set_option maxRecDepth 100000 in
theorem w_X3_says_165 (C : CX p s m args meth c cX3_says 7 (some .int) RX3 D cy ad zz 0 82 A) {N : Nat} {M : Mem} {j0 : Nat} (hk_j0 : kd j0 = 3) {x1 : Int32} {j2 : Nat} (hk_j2 : kd j2 = 2) {k49 : Int32 → Int32 → Int32 → Mem → Option (Int32 × Mem)} {rr : Int32} {M' : Mem} (hk49 : ∀ (x3 : Int32), ∀ (x4 : Int32), ∀ (x5 : Int32), ∀ (M : Mem), ∀ (H : Heap) (locs : List Loc), va_P D vwCl (pool cy ad 0 82 M) H → va_D A (pool cy ad 0 82 M) → va_S A s.heap H locs → ∀ (ls : Array Slot), lv_has ls 7 [(0, .ref (ad j0)), (1, .int x1), (2, .ref (ad j2)), (3, .int x3), (4, .int x4), (5, .int x5)] → k49 x3 x4 x5 M = some (rr, M') → W p l e ({ frames := 2, cells := 0, slots := 0, locals := 44 } : Room) s m args below meth c H locs 0 0 (MQ below (va_Qi (fun (x : Int32) (_ : Unit) => x = rr) (fun _ t => PA D cy ad 0 82 A M' t) A) args s 0 0 A) (F0 m 49 ls [])) {x3 : Int32} {x4 : Int32} {x5 : Int32} {H : Heap} {locs : List Loc} (hP : va_P D vwCl (pool cy ad 0 82 M) H) (hD : va_D A (pool cy ad 0 82 M)) (hS : va_S A s.heap H locs) {ls : Array Slot} (hl : lv_has ls 7 [(0, .ref (ad j0)), (1, .int x1), (2, .ref (ad j2)), (3, .int x3), (4, .int x4), (5, .int x5)]) (h : b_X3_says_165 N j0 x1 j2 k49 x3 x4 x5 M = some (rr, M')) : W p l e ({ frames := 2, cells := 0, slots := 0, locals := 44 } : Room) s m args below meth c H locs 0 0 (MQ below (va_Qi (fun (x : Int32) (_ : Unit) => x = rr) (fun _ t => PA D cy ad 0 82 A M' t) A) args s 0 0 A) (F0 m 165 ls []) := by
  obtain ⟨hx, hb, hml, hown, hts, hr, hlk, hK, hN, hA, hX⟩ := id C
  unfold b_X3_says_165 at h
  refine lv_goto (tgt := 209) hx hb dX3_says_165 (by decide) ?_
  exact w_X3_says_209 C hk_j0 hk_j2 hk49 hP hD hS hl h
def b_X3_says_136 (N : Nat) (j0 : Nat) (x1 : Int32) (j2 : Nat) (k49 : Int32 → Int32 → Int32 → Mem → Option (Int32 × Mem)) (x3 : Int32) (x4 : Int32) (x5 : Int32) (x6 : Int32) (M : Mem) : Option (Int32 × Mem) := (if x4 < (1 : Int32) then b_X3_says_209 N j0 x1 j2 k49 x3 x4 x5 M else gd (inb (x4 - (1 : Int32)) (len 70)) ((f_X3_ofOne x6 (AI M 70 (x4 - (1 : Int32)).toNatClampNeg) M).bind fun r161 => gd (inb (x4 - (1 : Int32)) (len 70)) (b_X3_says_165 N j0 x1 j2 k49 x3 x4 x5 (sAI M 70 (x4 - (1 : Int32)).toNatClampNeg r161))))
set_option maxHeartbeats 4000000 in
set_option maxRecDepth 100000 in
theorem w_X3_says_136 (C : CX p s m args meth c cX3_says 7 (some .int) RX3 D cy ad zz 0 82 A) {N : Nat} {M : Mem} {j0 : Nat} (hk_j0 : kd j0 = 3) {x1 : Int32} {j2 : Nat} (hk_j2 : kd j2 = 2) {k49 : Int32 → Int32 → Int32 → Mem → Option (Int32 × Mem)} {rr : Int32} {M' : Mem} (hk49 : ∀ (x3 : Int32), ∀ (x4 : Int32), ∀ (x5 : Int32), ∀ (M : Mem), ∀ (H : Heap) (locs : List Loc), va_P D vwCl (pool cy ad 0 82 M) H → va_D A (pool cy ad 0 82 M) → va_S A s.heap H locs → ∀ (ls : Array Slot), lv_has ls 7 [(0, .ref (ad j0)), (1, .int x1), (2, .ref (ad j2)), (3, .int x3), (4, .int x4), (5, .int x5)] → k49 x3 x4 x5 M = some (rr, M') → W p l e ({ frames := 2, cells := 0, slots := 0, locals := 44 } : Room) s m args below meth c H locs 0 0 (MQ below (va_Qi (fun (x : Int32) (_ : Unit) => x = rr) (fun _ t => PA D cy ad 0 82 A M' t) A) args s 0 0 A) (F0 m 49 ls [])) {x3 : Int32} {x4 : Int32} {x5 : Int32} {x6 : Int32} {H : Heap} {locs : List Loc} (hP : va_P D vwCl (pool cy ad 0 82 M) H) (hD : va_D A (pool cy ad 0 82 M)) (hS : va_S A s.heap H locs) {ls : Array Slot} (hl : lv_has ls 7 [(0, .ref (ad j0)), (1, .int x1), (2, .ref (ad j2)), (3, .int x3), (4, .int x4), (5, .int x5), (6, .int x6)]) (h : b_X3_says_136 N j0 x1 j2 k49 x3 x4 x5 x6 M = some (rr, M')) : W p l e ({ frames := 2, cells := 0, slots := 0, locals := 44 } : Room) s m args below meth c H locs 0 0 (MQ below (va_Qi (fun (x : Int32) (_ : Unit) => x = rr) (fun _ t => PA D cy ad 0 82 A M' t) A) args s 0 0 A) (F0 m 136 ls []) := by
  obtain ⟨hx, hb, hml, hown, hts, hr, hlk, hK, hN, hA, hX⟩ := id C
  unfold b_X3_says_136 at h
  refine lv_iload hx hb dX3_says_136 (lv_at hl 4 rfl) ?_
  refine lv_iconst (v := 1) hx hb dX3_says_138 (by decide) ?_
  refine lv_icmp_lt (tgt := 209) hx hb dX3_says_139 (by decide) (fun c139 => ?_) (fun c139 => ?_)
  · replace h := it_t c139 h
    exact w_X3_says_209 C hk_j0 hk_j2 hk49 hP hD hS (lv_sub hl [0, 1, 2, 3, 4, 5] rfl) h
  · replace h := it_f c139 h
    refine lv_aload_n hx hb dX3_says_142 rfl (lv_at hl 0 rfl) ?_
    refine gf_3_3 C hP (p_3 hk_j0) hk_j0 wd_177 dX3_says_143 ?_
    refine lv_iload hx hb dX3_says_146 (lv_at hl 4 rfl) ?_
    refine lv_iconst (v := 1) hx hb dX3_says_148 (by decide) ?_
    refine lv_isub hx hb dX3_says_149 ?_
    refine lv_iload hx hb dX3_says_150 (lv_at hl 6 rfl) ?_
    refine lv_aload_n hx hb dX3_says_152 rfl (lv_at hl 0 rfl) ?_
    refine gf_3_3 C hP (p_3 hk_j0) hk_j0 wd_177 dX3_says_153 ?_
    refine lv_iload hx hb dX3_says_156 (lv_at hl 4 rfl) ?_
    refine lv_iconst (v := 1) hx hb dX3_says_158 (by decide) ?_
    refine lv_isub hx hb dX3_says_159 ?_
    obtain ⟨gi1, h⟩ := gd_of h
    refine ia_ld C hP (iL (by decide)) (by decide) gi1 dX3_says_160 ?_
    obtain ⟨r161, g161, h⟩ := bd_of h
    refine call_iS (As := [.int x6, .int (AI M 70 (x4 - (1 : Int32)).toNatClampNeg)]) (rest := [.int (x4 - (1 : Int32)), .ref (ad 70)]) C hP hD hS (c_X3_ofOne g161) (gS wd_479 wd_480 wd_67 wd_481) es_X3_ofOne ⟨rfl, rfl⟩ ⟨Nat.le_of_ble_eq_true rfl, Nat.le_of_ble_eq_true rfl⟩ hl.1 rfl (Nat.le_of_ble_eq_true rfl) dX3_says_161 (fun H locs hP hD hS => ?_)
    obtain ⟨gi2, h⟩ := gd_of h
    refine ia_st C hP hD hS (iL (by decide)) (by decide) gi2 dX3_says_164 (fun H locs hP hD hS => ?_)
    exact w_X3_says_165 C hk_j0 hk_j2 hk49 hP hD hS (lv_sub hl [0, 1, 2, 3, 4, 5] rfl) h
def b_X3_says_206 (N : Nat) (j0 : Nat) (x1 : Int32) (j2 : Nat) (k49 : Int32 → Int32 → Int32 → Mem → Option (Int32 × Mem)) (x3 : Int32) (x4 : Int32) (x5 : Int32) (M : Mem) : Option (Int32 × Mem) := b_X3_says_209 N j0 x1 j2 k49 x3 (x4 + (-1 : Int32)) x5 M
set_option maxHeartbeats 4000000 in
set_option maxRecDepth 100000 in
theorem w_X3_says_206 (C : CX p s m args meth c cX3_says 7 (some .int) RX3 D cy ad zz 0 82 A) {N : Nat} {M : Mem} {j0 : Nat} (hk_j0 : kd j0 = 3) {x1 : Int32} {j2 : Nat} (hk_j2 : kd j2 = 2) {k49 : Int32 → Int32 → Int32 → Mem → Option (Int32 × Mem)} {rr : Int32} {M' : Mem} (hk49 : ∀ (x3 : Int32), ∀ (x4 : Int32), ∀ (x5 : Int32), ∀ (M : Mem), ∀ (H : Heap) (locs : List Loc), va_P D vwCl (pool cy ad 0 82 M) H → va_D A (pool cy ad 0 82 M) → va_S A s.heap H locs → ∀ (ls : Array Slot), lv_has ls 7 [(0, .ref (ad j0)), (1, .int x1), (2, .ref (ad j2)), (3, .int x3), (4, .int x4), (5, .int x5)] → k49 x3 x4 x5 M = some (rr, M') → W p l e ({ frames := 2, cells := 0, slots := 0, locals := 44 } : Room) s m args below meth c H locs 0 0 (MQ below (va_Qi (fun (x : Int32) (_ : Unit) => x = rr) (fun _ t => PA D cy ad 0 82 A M' t) A) args s 0 0 A) (F0 m 49 ls [])) {x3 : Int32} {x4 : Int32} {x5 : Int32} {H : Heap} {locs : List Loc} (hP : va_P D vwCl (pool cy ad 0 82 M) H) (hD : va_D A (pool cy ad 0 82 M)) (hS : va_S A s.heap H locs) {ls : Array Slot} (hl : lv_has ls 7 [(0, .ref (ad j0)), (1, .int x1), (2, .ref (ad j2)), (3, .int x3), (4, .int x4), (5, .int x5)]) (h : b_X3_says_206 N j0 x1 j2 k49 x3 x4 x5 M = some (rr, M')) : W p l e ({ frames := 2, cells := 0, slots := 0, locals := 44 } : Room) s m args below meth c H locs 0 0 (MQ below (va_Qi (fun (x : Int32) (_ : Unit) => x = rr) (fun _ t => PA D cy ad 0 82 A M' t) A) args s 0 0 A) (F0 m 206 ls []) := by
  obtain ⟨hx, hb, hml, hown, hts, hr, hlk, hK, hN, hA, hX⟩ := id C
  unfold b_X3_says_206 at h
  refine lv_iinc (v := (x4 + (-1 : Int32))) (lv' := [(4, .int (x4 + (-1 : Int32))), (0, .ref (ad j0)), (1, .int x1), (2, .ref (ad j2)), (3, .int x3), (5, .int x5)]) hx hb dX3_says_206 hl (k := 4) rfl rfl (by decide) rfl (fun ls hl => ?_)
  exact w_X3_says_209 C hk_j0 hk_j2 hk49 hP hD hS (lv_sub hl [1, 2, 3, 4, 0, 5] rfl) h
def b_X3_says_49 (N : Nat) (j0 : Nat) (x1 : Int32) (j2 : Nat) : Nat → Int32 → Int32 → Int32 → Mem → Option (Int32 × Mem)
  | 0, _, _, _, _ => none
  | fu + 1, x3, x4, x5, M => (if x3 ≤ x5 then (if x4 ≤ 0 then b_X3_says_231 N j0 x1 j2 x1 (0 : Int32) M else b_X3_says_231 N j0 x1 j2 x1 (AI M 70 (0 : Int32).toNatClampNeg) M) else gd (inb x5 (len (j0 + 6))) ((if (AI M (j0 + 6) x5.toNatClampNeg) = 0 then b_X3_says_75 N j0 x1 j2 (b_X3_says_49 N j0 x1 j2 fu) x3 x4 x5 (AI M (j0 + 6) x5.toNatClampNeg) M else (if (AI M (j0 + 6) x5.toNatClampNeg) = (1 : Int32) then b_X3_says_75 N j0 x1 j2 (b_X3_says_49 N j0 x1 j2 fu) x3 x4 x5 (AI M (j0 + 6) x5.toNatClampNeg) M else (if (AI M (j0 + 6) x5.toNatClampNeg) = (2 : Int32) then b_X3_says_136 N j0 x1 j2 (b_X3_says_49 N j0 x1 j2 fu) x3 x4 x5 (AI M (j0 + 6) x5.toNatClampNeg) M else (if (AI M (j0 + 6) x5.toNatClampNeg) = (3 : Int32) then b_X3_says_136 N j0 x1 j2 (b_X3_says_49 N j0 x1 j2 fu) x3 x4 x5 (AI M (j0 + 6) x5.toNatClampNeg) M else (if x4 < (2 : Int32) then b_X3_says_209 N j0 x1 j2 (b_X3_says_49 N j0 x1 j2 fu) x3 x4 x5 M else gd (inb (x4 - (2 : Int32)) (len 70)) (gd (inb (x4 - (1 : Int32)) (len 70)) ((f_X3_ofTwo (AI M (j0 + 6) x5.toNatClampNeg) (AI M 70 (x4 - (2 : Int32)).toNatClampNeg) (AI M 70 (x4 - (1 : Int32)).toNatClampNeg) M).bind fun r202 => gd (inb (x4 - (2 : Int32)) (len 70)) (b_X3_says_206 N j0 x1 j2 (b_X3_says_49 N j0 x1 j2 fu) x3 x4 x5 (sAI M 70 (x4 - (2 : Int32)).toNatClampNeg r202)))))))))))
set_option maxHeartbeats 4000000 in
set_option maxRecDepth 100000 in
theorem w_X3_says_49 (C : CX p s m args meth c cX3_says 7 (some .int) RX3 D cy ad zz 0 82 A) {N : Nat} {j0 : Nat} (hk_j0 : kd j0 = 3) {x1 : Int32} {j2 : Nat} (hk_j2 : kd j2 = 2) {rr : Int32} {M' : Mem}  : ∀ (fu : Nat), ∀ (x3 : Int32), ∀ (x4 : Int32), ∀ (x5 : Int32), ∀ (M : Mem), ∀ (H : Heap) (locs : List Loc), va_P D vwCl (pool cy ad 0 82 M) H → va_D A (pool cy ad 0 82 M) → va_S A s.heap H locs → ∀ (ls : Array Slot), lv_has ls 7 [(0, .ref (ad j0)), (1, .int x1), (2, .ref (ad j2)), (3, .int x3), (4, .int x4), (5, .int x5)] → b_X3_says_49 N j0 x1 j2 fu x3 x4 x5 M = some (rr, M') → W p l e ({ frames := 2, cells := 0, slots := 0, locals := 44 } : Room) s m args below meth c H locs 0 0 (MQ below (va_Qi (fun (x : Int32) (_ : Unit) => x = rr) (fun _ t => PA D cy ad 0 82 A M' t) A) args s 0 0 A) (F0 m 49 ls []) := by
  obtain ⟨hx, hb, hml, hown, hts, hr, hlk, hK, hN, hA, hX⟩ := id C
  intro fu
  induction fu with
  | zero =>
    intro x3 x4 x5 M H locs hP hD hS ls hl h
    exact no_some (show none = some _ from h)
  | succ fu ih =>
    intro x3 x4 x5 M H locs hP hD hS ls hl h
    rw [b_X3_says_49] at h
    refine lv_iload hx hb dX3_says_49 (lv_at hl 5 rfl) ?_
    refine lv_iload_n hx hb dX3_says_51 rfl (lv_at hl 3 rfl) ?_
    refine lv_icmp_ge (tgt := 215) hx hb dX3_says_52 (by decide) (fun c52 => ?_) (fun c52 => ?_)
    · replace h := it_t c52 h
      refine lv_iload_n hx hb dX3_says_215 rfl (lv_at hl 1 rfl) ?_
      refine lv_iload hx hb dX3_says_216 (lv_at hl 4 rfl) ?_
      refine lv_if_le (tgt := 230) hx hb dX3_says_218 (by decide) (fun c218 => ?_) (fun c218 => ?_)
      · replace h := it_t c218 h
        refine lv_iconst (v := 0) hx hb dX3_says_230 (by decide) ?_
        exact w_X3_says_231 C hk_j0 hk_j2 hP hD hS (lv_sub hl [] rfl) h
      · replace h := it_f c218 h
        refine lv_aload_n hx hb dX3_says_221 rfl (lv_at hl 0 rfl) ?_
        refine gf_3_3 C hP (p_3 hk_j0) hk_j0 wd_177 dX3_says_222 ?_
        refine lv_iconst (v := 0) hx hb dX3_says_225 (by decide) ?_
        refine ia_ld C hP (iL (by decide)) (by decide) (by decide) dX3_says_226 ?_
        refine lv_goto (tgt := 231) hx hb dX3_says_227 (by decide) ?_
        exact w_X3_says_231 C hk_j0 hk_j2 hP hD hS (lv_sub hl [] rfl) h
    · replace h := it_f c52 h
      refine lv_aload_n hx hb dX3_says_55 rfl (lv_at hl 0 rfl) ?_
      refine gf_3_0 C hP (p_3 hk_j0) hk_j0 wd_173 dX3_says_56 ?_
      refine lv_iload hx hb dX3_says_59 (lv_at hl 5 rfl) ?_
      obtain ⟨gi1, h⟩ := gd_of h
      refine ia_ld C hP (p_3_0 hk_j0) (k_3_0 hk_j0) gi1 dX3_says_61 ?_
      refine lv_istore (lv' := [(6, .int (AI M (j0 + 6) x5.toNatClampNeg)), (0, .ref (ad j0)), (1, .int x1), (2, .ref (ad j2)), (3, .int x3), (4, .int x4), (5, .int x5)]) hx hb dX3_says_62 hl (by decide) rfl (fun ls hl => ?_)
      refine lv_iload hx hb dX3_says_64 (lv_at hl 0 rfl) ?_
      refine lv_if_eq (tgt := 75) hx hb dX3_says_66 (by decide) (fun c66 => ?_) (fun c66 => ?_)
      · replace h := it_t c66 h
        exact w_X3_says_75 C hk_j0 hk_j2 ih hP hD hS (lv_sub hl [1, 2, 3, 4, 5, 6, 0] rfl) h
      · replace h := it_f c66 h
        refine lv_iload hx hb dX3_says_69 (lv_at hl 0 rfl) ?_
        refine lv_iconst (v := 1) hx hb dX3_says_71 (by decide) ?_
        refine lv_icmp_ne (tgt := 124) hx hb dX3_says_72 (by decide) (fun c72 => ?_) (fun c72 => ?_)
        · replace h := it_f c72 h
          refine lv_iload hx hb dX3_says_124 (lv_at hl 0 rfl) ?_
          refine lv_iconst (v := 2) hx hb dX3_says_126 (by decide) ?_
          refine lv_icmp_eq (tgt := 136) hx hb dX3_says_127 (by decide) (fun c127 => ?_) (fun c127 => ?_)
          · replace h := it_t c127 h
            exact w_X3_says_136 C hk_j0 hk_j2 ih hP hD hS (lv_sub hl [1, 2, 3, 4, 5, 6, 0] rfl) h
          · replace h := it_f c127 h
            refine lv_iload hx hb dX3_says_130 (lv_at hl 0 rfl) ?_
            refine lv_iconst (v := 3) hx hb dX3_says_132 (by decide) ?_
            refine lv_icmp_ne (tgt := 168) hx hb dX3_says_133 (by decide) (fun c133 => ?_) (fun c133 => ?_)
            · replace h := it_f c133 h
              refine lv_iload hx hb dX3_says_168 (lv_at hl 5 rfl) ?_
              refine lv_iconst (v := 2) hx hb dX3_says_170 (by decide) ?_
              refine lv_icmp_lt (tgt := 209) hx hb dX3_says_171 (by decide) (fun c171 => ?_) (fun c171 => ?_)
              · replace h := it_t c171 h
                exact w_X3_says_209 C hk_j0 hk_j2 ih hP hD hS (lv_sub hl [1, 2, 3, 4, 5, 6] rfl) h
              · replace h := it_f c171 h
                refine lv_aload_n hx hb dX3_says_174 rfl (lv_at hl 1 rfl) ?_
                refine gf_3_3 C hP (p_3 hk_j0) hk_j0 wd_177 dX3_says_175 ?_
                refine lv_iload hx hb dX3_says_178 (lv_at hl 5 rfl) ?_
                refine lv_iconst (v := 2) hx hb dX3_says_180 (by decide) ?_
                refine lv_isub hx hb dX3_says_181 ?_
                refine lv_iload hx hb dX3_says_182 (lv_at hl 0 rfl) ?_
                refine lv_aload_n hx hb dX3_says_184 rfl (lv_at hl 1 rfl) ?_
                refine gf_3_3 C hP (p_3 hk_j0) hk_j0 wd_177 dX3_says_185 ?_
                refine lv_iload hx hb dX3_says_188 (lv_at hl 5 rfl) ?_
                refine lv_iconst (v := 2) hx hb dX3_says_190 (by decide) ?_
                refine lv_isub hx hb dX3_says_191 ?_
                obtain ⟨gi2, h⟩ := gd_of h
                refine ia_ld C hP (iL (by decide)) (by decide) gi2 dX3_says_192 ?_
                refine lv_aload_n hx hb dX3_says_193 rfl (lv_at hl 1 rfl) ?_
                refine gf_3_3 C hP (p_3 hk_j0) hk_j0 wd_177 dX3_says_194 ?_
                refine lv_iload hx hb dX3_says_197 (lv_at hl 5 rfl) ?_
                refine lv_iconst (v := 1) hx hb dX3_says_199 (by decide) ?_
                refine lv_isub hx hb dX3_says_200 ?_
                obtain ⟨gi3, h⟩ := gd_of h
                refine ia_ld C hP (iL (by decide)) (by decide) gi3 dX3_says_201 ?_
                obtain ⟨r202, g202, h⟩ := bd_of h
                refine call_iS (As := [.int (AI M (j0 + 6) x5.toNatClampNeg), .int (AI M 70 (x4 - (2 : Int32)).toNatClampNeg), .int (AI M 70 (x4 - (1 : Int32)).toNatClampNeg)]) (rest := [.int (x4 - (2 : Int32)), .ref (ad 70)]) C hP hD hS (c_X3_ofTwo g202) (gS wd_482 wd_483 wd_67 wd_484) es_X3_ofTwo ⟨rfl, rfl⟩ ⟨Nat.le_of_ble_eq_true rfl, Nat.le_of_ble_eq_true rfl⟩ hl.1 rfl (Nat.le_of_ble_eq_true rfl) dX3_says_202 (fun H locs hP hD hS => ?_)
                obtain ⟨gi4, h⟩ := gd_of h
                refine ia_st C hP hD hS (iL (by decide)) (by decide) gi4 dX3_says_205 (fun H locs hP hD hS => ?_)
                exact w_X3_says_206 C hk_j0 hk_j2 ih hP hD hS (lv_sub hl [1, 2, 3, 4, 5, 6] rfl) h
            · replace h := it_t c133 h
              exact w_X3_says_136 C hk_j0 hk_j2 ih hP hD hS (lv_sub hl [1, 2, 3, 4, 5, 6, 0] rfl) h
        · replace h := it_t c72 h
          exact w_X3_says_75 C hk_j0 hk_j2 ih hP hD hS (lv_sub hl [1, 2, 3, 4, 5, 6, 0] rfl) h
def b_X3_says_47 (N : Nat) (j0 : Nat) (x1 : Int32) (j2 : Nat) (x3 : Int32) (x4 : Int32) (t0 : Int32) (M : Mem) : Option (Int32 × Mem) := b_X3_says_49 N j0 x1 j2 N x3 x4 t0 M
set_option maxHeartbeats 4000000 in
set_option maxRecDepth 100000 in
theorem w_X3_says_47 (C : CX p s m args meth c cX3_says 7 (some .int) RX3 D cy ad zz 0 82 A) {N : Nat} {M : Mem} {j0 : Nat} (hk_j0 : kd j0 = 3) {x1 : Int32} {j2 : Nat} (hk_j2 : kd j2 = 2) {rr : Int32} {M' : Mem} {x3 : Int32} {x4 : Int32} {t0 : Int32} {H : Heap} {locs : List Loc} (hP : va_P D vwCl (pool cy ad 0 82 M) H) (hD : va_D A (pool cy ad 0 82 M)) (hS : va_S A s.heap H locs) {ls : Array Slot} (hl : lv_has ls 7 [(0, .ref (ad j0)), (1, .int x1), (2, .ref (ad j2)), (3, .int x3), (4, .int x4)]) (h : b_X3_says_47 N j0 x1 j2 x3 x4 t0 M = some (rr, M')) : W p l e ({ frames := 2, cells := 0, slots := 0, locals := 44 } : Room) s m args below meth c H locs 0 0 (MQ below (va_Qi (fun (x : Int32) (_ : Unit) => x = rr) (fun _ t => PA D cy ad 0 82 A M' t) A) args s 0 0 A) (F0 m 47 ls [.int t0]) := by
  obtain ⟨hx, hb, hml, hown, hts, hr, hlk, hK, hN, hA, hX⟩ := id C
  unfold b_X3_says_47 at h
  refine lv_istore (lv' := [(5, .int t0), (0, .ref (ad j0)), (1, .int x1), (2, .ref (ad j2)), (3, .int x3), (4, .int x4)]) hx hb dX3_says_47 hl (by decide) rfl (fun ls hl => ?_)
  exact w_X3_says_49 C hk_j0 hk_j2 N _ _ _ _ _ _ hP hD hS _ (lv_sub hl [1, 2, 3, 4, 5, 0] rfl) h
def b_X3_says_24 (N : Nat) (j0 : Nat) (x1 : Int32) (j2 : Nat) (x3 : Int32) (M : Mem) : Option (Int32 × Mem) := (if x1 ≤ 0 then b_X3_says_47 N j0 x1 j2 x3 (0 : Int32) (0 : Int32) M else gd (inb (x1 - (1 : Int32)) (len (j0 + 18))) (b_X3_says_47 N j0 x1 j2 x3 (0 : Int32) (if (0 : Int32) < (AI M (j0 + 18) (x1 - (1 : Int32)).toNatClampNeg) then (AI M (j0 + 18) (x1 - (1 : Int32)).toNatClampNeg) else (0 : Int32)) M))
set_option maxHeartbeats 4000000 in
set_option maxRecDepth 100000 in
theorem w_X3_says_24 (C : CX p s m args meth c cX3_says 7 (some .int) RX3 D cy ad zz 0 82 A) {N : Nat} {M : Mem} {j0 : Nat} (hk_j0 : kd j0 = 3) {x1 : Int32} {j2 : Nat} (hk_j2 : kd j2 = 2) {rr : Int32} {M' : Mem} {x3 : Int32} {H : Heap} {locs : List Loc} (hP : va_P D vwCl (pool cy ad 0 82 M) H) (hD : va_D A (pool cy ad 0 82 M)) (hS : va_S A s.heap H locs) {ls : Array Slot} (hl : lv_has ls 7 [(0, .ref (ad j0)), (1, .int x1), (2, .ref (ad j2)), (3, .int x3)]) (h : b_X3_says_24 N j0 x1 j2 x3 M = some (rr, M')) : W p l e ({ frames := 2, cells := 0, slots := 0, locals := 44 } : Room) s m args below meth c H locs 0 0 (MQ below (va_Qi (fun (x : Int32) (_ : Unit) => x = rr) (fun _ t => PA D cy ad 0 82 A M' t) A) args s 0 0 A) (F0 m 24 ls []) := by
  obtain ⟨hx, hb, hml, hown, hts, hr, hlk, hK, hN, hA, hX⟩ := id C
  unfold b_X3_says_24 at h
  refine lv_iconst (v := 0) hx hb dX3_says_24 (by decide) ?_
  refine lv_istore (lv' := [(4, .int (0 : Int32)), (0, .ref (ad j0)), (1, .int x1), (2, .ref (ad j2)), (3, .int x3)]) hx hb dX3_says_25 hl (by decide) rfl (fun ls hl => ?_)
  refine lv_iload_n hx hb dX3_says_27 rfl (lv_at hl 2 rfl) ?_
  refine lv_if_le (tgt := 46) hx hb dX3_says_28 (by decide) (fun c28 => ?_) (fun c28 => ?_)
  · replace h := it_t c28 h
    refine lv_iconst (v := 0) hx hb dX3_says_46 (by decide) ?_
    exact w_X3_says_47 C hk_j0 hk_j2 hP hD hS (lv_sub hl [1, 2, 3, 4, 0] rfl) h
  · replace h := it_f c28 h
    refine lv_iconst (v := 0) hx hb dX3_says_31 (by decide) ?_
    refine lv_aload_n hx hb dX3_says_32 rfl (lv_at hl 1 rfl) ?_
    refine gf_3_2 C hP (p_3 hk_j0) hk_j0 wd_175 dX3_says_33 ?_
    refine lv_iload_n hx hb dX3_says_36 rfl (lv_at hl 2 rfl) ?_
    refine lv_iconst (v := 1) hx hb dX3_says_37 (by decide) ?_
    refine lv_isub hx hb dX3_says_38 ?_
    obtain ⟨gi1, h⟩ := gd_of h
    refine ia_ld C hP (p_3_2 hk_j0) (k_3_2 hk_j0) gi1 dX3_says_39 ?_
    refine va_mmax hx hb (hml.trans hl.1.symm) hown (hts _ wd_472) (hts _ wd_473) (hts _ wd_70) (hts _ wd_474) (Nat.le_of_ble_eq_true rfl) (Nat.le_of_ble_eq_true rfl) (Nat.zero_le _) (Nat.zero_le _) dX3_says_40 ?_
    refine lv_goto (tgt := 47) hx hb dX3_says_43 (by decide) ?_
    exact w_X3_says_47 C hk_j0 hk_j2 hP hD hS (lv_sub hl [1, 2, 3, 4, 0] rfl) h
def b_X3_says_0 (N : Nat) (j0 : Nat) (x1 : Int32) (j2 : Nat) (M : Mem) : Option (Int32 × Mem) := (if x1 < 0 then some ((0 : Int32), M) else (if x1 < (3 : Int32) then gd (inb x1 (len (j0 + 18))) (b_X3_says_24 N j0 x1 j2 (if (AI M (j0 + 18) x1.toNatClampNeg) < (160 : Int32) then (AI M (j0 + 18) x1.toNatClampNeg) else (160 : Int32)) M) else some ((0 : Int32), M)))
set_option maxHeartbeats 4000000 in
set_option maxRecDepth 100000 in
theorem w_X3_says_0 (C : CX p s m args meth c cX3_says 7 (some .int) RX3 D cy ad zz 0 82 A) {N : Nat} {M : Mem} {j0 : Nat} (hk_j0 : kd j0 = 3) {x1 : Int32} {j2 : Nat} (hk_j2 : kd j2 = 2) {rr : Int32} {M' : Mem} {H : Heap} {locs : List Loc} (hP : va_P D vwCl (pool cy ad 0 82 M) H) (hD : va_D A (pool cy ad 0 82 M)) (hS : va_S A s.heap H locs) {ls : Array Slot} (hl : lv_has ls 7 [(0, .ref (ad j0)), (1, .int x1), (2, .ref (ad j2))]) (h : b_X3_says_0 N j0 x1 j2 M = some (rr, M')) : W p l e ({ frames := 2, cells := 0, slots := 0, locals := 44 } : Room) s m args below meth c H locs 0 0 (MQ below (va_Qi (fun (x : Int32) (_ : Unit) => x = rr) (fun _ t => PA D cy ad 0 82 A M' t) A) args s 0 0 A) (F0 m 0 ls []) := by
  obtain ⟨hx, hb, hml, hown, hts, hr, hlk, hK, hN, hA, hX⟩ := id C
  unfold b_X3_says_0 at h
  refine lv_iload_n hx hb dX3_says_0 rfl (lv_at hl 1 rfl) ?_
  refine lv_if_lt (tgt := 9) hx hb dX3_says_1 (by decide) (fun c1 => ?_) (fun c1 => ?_)
  · replace h := it_t c1 h
    refine lv_iconst (v := 0) hx hb dX3_says_9 (by decide) ?_
    exact rt_i (r := (0 : Int32)) C hP hD hS dX3_says_10 (rw_end h)
  · replace h := it_f c1 h
    refine lv_iload_n hx hb dX3_says_4 rfl (lv_at hl 1 rfl) ?_
    refine lv_iconst (v := 3) hx hb dX3_says_5 (by decide) ?_
    refine lv_icmp_lt (tgt := 11) hx hb dX3_says_6 (by decide) (fun c6 => ?_) (fun c6 => ?_)
    · replace h := it_t c6 h
      refine lv_sipush (v := 160) hx hb dX3_says_11 (by decide) ?_
      refine lv_aload_n hx hb dX3_says_14 rfl (lv_at hl 0 rfl) ?_
      refine gf_3_2 C hP (p_3 hk_j0) hk_j0 wd_175 dX3_says_15 ?_
      refine lv_iload_n hx hb dX3_says_18 rfl (lv_at hl 1 rfl) ?_
      obtain ⟨gi1, h⟩ := gd_of h
      refine ia_ld C hP (p_3_2 hk_j0) (k_3_2 hk_j0) gi1 dX3_says_19 ?_
      refine va_mmin hx hb (hml.trans hl.1.symm) hown (hts _ wd_471) (hts _ wd_222) (hts _ wd_70) (hts _ wd_223) (Nat.le_of_ble_eq_true rfl) (Nat.le_of_ble_eq_true rfl) (Nat.zero_le _) (Nat.zero_le _) dX3_says_20 ?_
      refine lv_istore_n (lv' := [(3, .int (if (AI M (j0 + 18) x1.toNatClampNeg) < (160 : Int32) then (AI M (j0 + 18) x1.toNatClampNeg) else (160 : Int32))), (0, .ref (ad j0)), (1, .int x1), (2, .ref (ad j2))]) hx hb dX3_says_23 rfl hl (by decide) rfl (fun ls hl => ?_)
      exact w_X3_says_24 C hk_j0 hk_j2 hP hD hS (lv_sub hl [1, 2, 3, 0] rfl) h
    · replace h := it_f c6 h
      refine lv_iconst (v := 0) hx hb dX3_says_9 (by decide) ?_
      exact rt_i (r := (0 : Int32)) C hP hD hS dX3_says_10 (rw_end h)
def f_X3_says (N : Nat) (j0 : Nat) (x1 : Int32) (j2 : Nat) (M : Mem) : Option (Int32 × Mem) := b_X3_says_0 N j0 x1 j2 M
theorem c_X3_says {l : Launch} {D : va_G} {cy : Nat → ClassId} {ad : Nat → Nat} {zz : (Nat → Nat) × (Nat → Nat)} {N : Nat} {j0 : Nat} (hk_j0 : kd j0 = 3) {x1 : Int32} {j2 : Nat} (hk_j2 : kd j2 = 2) {M : Mem} {rr : Int32} {M' : Mem} (h : f_X3_says N j0 x1 j2 M = some (rr, M')) : CTi l D cy ad zz 0 82 yX3_says (.code yX3_says cX3_says 7 (some .int) :: tb) ({ frames := 2, cells := 0, slots := 0, locals := 44 } : Room) [.ref (ad j0), .int x1, .ref (ad j2)] M rr M' := by
  intro sz
  refine CX.of (by decide +kernel) (fun p e s m args below meth c H ls C hP hD hS hl => ?_) (Nat.le_of_ble_eq_true rfl)
  exact w_X3_says_0 C hk_j0 hk_j2 hP hD hS hl h
theorem ev_X3_says : yX3_says.cls = RX3 ∧ yX3_says.cls ≠ "java/lang/invoke/MethodHandle" ∧ yX3_says.cls ≠ "java/lang/invoke/VarHandle" ∧ (parseMethodDescriptor yX3_says.desc).map (fun d => d.parameters.length) = some 2 := by decide +kernel
def b_X2_goesAsBaby_0 (M : Mem) (j0 : Nat) (x1 : Int32) : Option (Int32) := (if ((FI M j0 1) + (1 : Int32)) ≤ 0 then some (0 : Int32) else gd (decide (¬ ((FI M j0 1) + (1 : Int32)) = 0)) (some (((2 : Int32) * x1) - ((2 : Int32) * x1) / ((FI M j0 1) + (1 : Int32)) * ((FI M j0 1) + (1 : Int32)))))
set_option maxHeartbeats 4000000 in
set_option maxRecDepth 100000 in
theorem w_X2_goesAsBaby_0 (C : CX p s m args meth c cX2_goesAsBaby 3 (some .int) RX2 D cy ad zz 0 82 A) {M : Mem} {j0 : Nat} (hk_j0 : kd j0 = 2) {x1 : Int32} {rr : Int32} {H : Heap} {locs : List Loc} (hP : va_P D vwCl (pool cy ad 0 82 M) H) (hD : va_D A (pool cy ad 0 82 M)) (hS : va_S A s.heap H locs) {ls : Array Slot} (hl : lv_has ls 3 [(0, .ref (ad j0)), (1, .int x1)]) (h : b_X2_goesAsBaby_0 M j0 x1 = some rr) : W p l e ({ frames := 0, cells := 0, slots := 0, locals := 0 } : Room) s m args below meth c H locs 0 0 (MQ below (va_Qi (fun (x : Int32) (_ : Unit) => x = rr) (fun _ t => PA D cy ad 0 82 A M t) A) args s 0 0 A) (F0 m 0 ls []) := by
  obtain ⟨hx, hb, hml, hown, hts, hr, hlk, hK, hN, hA, hX⟩ := id C
  unfold b_X2_goesAsBaby_0 at h
  refine lv_aload_n hx hb dX2_goesAsBaby_0 rfl (lv_at hl 0 rfl) ?_
  refine gf_2_1 C hP (p_2 hk_j0) hk_j0 wd_102 dX2_goesAsBaby_1 ?_
  refine lv_iconst (v := 1) hx hb dX2_goesAsBaby_4 (by decide) ?_
  refine lv_iadd hx hb dX2_goesAsBaby_5 ?_
  refine lv_istore_n (lv' := [(2, .int ((FI M j0 1) + (1 : Int32))), (0, .ref (ad j0)), (1, .int x1)]) hx hb dX2_goesAsBaby_6 rfl hl (by decide) rfl (fun ls hl => ?_)
  refine lv_iload_n hx hb dX2_goesAsBaby_7 rfl (lv_at hl 0 rfl) ?_
  refine lv_if_le (tgt := 19) hx hb dX2_goesAsBaby_8 (by decide) (fun c8 => ?_) (fun c8 => ?_)
  · replace h := it_t c8 h
    refine lv_iconst (v := 0) hx hb dX2_goesAsBaby_19 (by decide) ?_
    exact rt_i (r := (0 : Int32)) C hP hD hS dX2_goesAsBaby_20 ⟨Option.some.inj h, rfl⟩
  · replace h := it_f c8 h
    refine lv_iconst (v := 2) hx hb dX2_goesAsBaby_11 (by decide) ?_
    refine lv_iload_n hx hb dX2_goesAsBaby_12 rfl (lv_at hl 2 rfl) ?_
    refine lv_imul hx hb dX2_goesAsBaby_13 ?_
    refine lv_iload_n hx hb dX2_goesAsBaby_14 rfl (lv_at hl 0 rfl) ?_
    obtain ⟨gz1, h⟩ := gd_of h
    refine lv_irem hx hb dX2_goesAsBaby_15 (of_decide_eq_true gz1) ?_
    refine lv_goto (tgt := 20) hx hb dX2_goesAsBaby_16 (by decide) ?_
    exact rt_i (r := (((2 : Int32) * x1) - ((2 : Int32) * x1) / ((FI M j0 1) + (1 : Int32)) * ((FI M j0 1) + (1 : Int32)))) C hP hD hS dX2_goesAsBaby_20 ⟨Option.some.inj h, rfl⟩
def f_X2_goesAsBaby (j0 : Nat) (x1 : Int32) (M : Mem) : Option (Int32) := b_X2_goesAsBaby_0 M j0 x1
theorem c_X2_goesAsBaby {l : Launch} {D : va_G} {cy : Nat → ClassId} {ad : Nat → Nat} {zz : (Nat → Nat) × (Nat → Nat)} {j0 : Nat} (hk_j0 : kd j0 = 2) {x1 : Int32} {M : Mem} {rr : Int32} (h : f_X2_goesAsBaby j0 x1 M = some rr) : CTi l D cy ad zz 0 82 yX2_goesAsBaby (.code yX2_goesAsBaby cX2_goesAsBaby 3 (some .int) :: tb) ({ frames := 0, cells := 0, slots := 0, locals := 0 } : Room) [.ref (ad j0), .int x1] M rr M := by
  intro sz
  refine CX.of (by decide +kernel) (fun p e s m args below meth c H ls C hP hD hS hl => ?_) (Nat.le_of_ble_eq_true rfl)
  exact w_X2_goesAsBaby_0 C hk_j0 hP hD hS hl h
theorem ev_X2_goesAsBaby : yX2_goesAsBaby.cls = RX2 ∧ yX2_goesAsBaby.cls ≠ "java/lang/invoke/MethodHandle" ∧ yX2_goesAsBaby.cls ≠ "java/lang/invoke/VarHandle" ∧ (parseMethodDescriptor yX2_goesAsBaby.desc).map (fun d => d.parameters.length) = some 1 := by decide +kernel
def b_X2_goesBy_74 (N : Nat) (j0 : Nat) (j1 : Nat) (x3 : Int32) (M : Mem) : Option (Int32 × Mem) := some ((if ((1 : Int32) + ((FI M j0 6) / (10 : Int32))) < x3 then ((1 : Int32) + ((FI M j0 6) / (10 : Int32))) else x3), M)
set_option maxHeartbeats 4000000 in
set_option maxRecDepth 100000 in
theorem w_X2_goesBy_74 (C : CX p s m args meth c cX2_goesBy 4 (some .int) RX2 D cy ad zz 0 82 A) {N : Nat} {M : Mem} {j0 : Nat} (hk_j0 : kd j0 = 2) {j1 : Nat} (hk_j1 : kd j1 = 3) {rr : Int32} {M' : Mem} {x3 : Int32} {H : Heap} {locs : List Loc} (hP : va_P D vwCl (pool cy ad 0 82 M) H) (hD : va_D A (pool cy ad 0 82 M)) (hS : va_S A s.heap H locs) {ls : Array Slot} (hl : lv_has ls 4 [(0, .ref (ad j0)), (3, .int x3)]) (h : b_X2_goesBy_74 N j0 j1 x3 M = some (rr, M')) : W p l e ({ frames := 3, cells := 0, slots := 0, locals := 70 } : Room) s m args below meth c H locs 0 0 (MQ below (va_Qi (fun (x : Int32) (_ : Unit) => x = rr) (fun _ t => PA D cy ad 0 82 A M' t) A) args s 0 0 A) (F0 m 74 ls []) := by
  obtain ⟨hx, hb, hml, hown, hts, hr, hlk, hK, hN, hA, hX⟩ := id C
  unfold b_X2_goesBy_74 at h
  refine lv_iload_n hx hb dX2_goesBy_74 rfl (lv_at hl 1 rfl) ?_
  refine lv_iconst (v := 1) hx hb dX2_goesBy_75 (by decide) ?_
  refine lv_aload_n hx hb dX2_goesBy_76 rfl (lv_at hl 0 rfl) ?_
  refine gf_2_6 C hP (p_2 hk_j0) hk_j0 wd_113 dX2_goesBy_77 ?_
  refine lv_bipush (v := 10) hx hb dX2_goesBy_80 (by decide) ?_
  refine lv_idiv hx hb dX2_goesBy_82 (by decide) ?_
  refine lv_iadd hx hb dX2_goesBy_83 ?_
  refine va_mmin hx hb (hml.trans hl.1.symm) hown (hts _ wd_535) (hts _ wd_222) (hts _ wd_70) (hts _ wd_223) (Nat.le_of_ble_eq_true rfl) (Nat.le_of_ble_eq_true rfl) (Nat.zero_le _) (Nat.zero_le _) dX2_goesBy_84 ?_
  exact rt_i (r := (if ((1 : Int32) + ((FI M j0 6) / (10 : Int32))) < x3 then ((1 : Int32) + ((FI M j0 6) / (10 : Int32))) else x3)) C hP hD hS dX2_goesBy_87 (rw_end h)
def b_X2_goesBy_19 (N : Nat) (j0 : Nat) (j1 : Nat) (x2 : Int32) (t0 : Int32) (M : Mem) : Option (Int32 × Mem) := (if (FI M j0 0) = 1 then (f_X2_goesAsBaby j0 t0 M).bind fun r62 => some (r62, M) else (if (FI M j0 0) = 2 then b_X2_goesBy_74 N j0 j1 t0 M else (if (FI M j0 0) = 3 then (f_X2_goesAsBaby j0 t0 M).bind fun r68 => some ((r68 + (1 : Int32)), M) else (if (FI M j0 0) = 4 then b_X2_goesBy_74 N j0 j1 t0 M else (if (FI M j0 0) = 5 then some ((if (FI M j0 1) < x2 then (FI M j0 1) else x2), M) else some (t0, M))))))
set_option maxHeartbeats 4000000 in
set_option maxRecDepth 100000 in
theorem w_X2_goesBy_19 (C : CX p s m args meth c cX2_goesBy 4 (some .int) RX2 D cy ad zz 0 82 A) {N : Nat} {M : Mem} {j0 : Nat} (hk_j0 : kd j0 = 2) {j1 : Nat} (hk_j1 : kd j1 = 3) {rr : Int32} {M' : Mem} {x2 : Int32} {t0 : Int32} {H : Heap} {locs : List Loc} (hP : va_P D vwCl (pool cy ad 0 82 M) H) (hD : va_D A (pool cy ad 0 82 M)) (hS : va_S A s.heap H locs) {ls : Array Slot} (hl : lv_has ls 4 [(0, .ref (ad j0)), (2, .int x2)]) (h : b_X2_goesBy_19 N j0 j1 x2 t0 M = some (rr, M')) : W p l e ({ frames := 3, cells := 0, slots := 0, locals := 70 } : Room) s m args below meth c H locs 0 0 (MQ below (va_Qi (fun (x : Int32) (_ : Unit) => x = rr) (fun _ t => PA D cy ad 0 82 A M' t) A) args s 0 0 A) (F0 m 19 ls [.int t0]) := by
  obtain ⟨hx, hb, hml, hown, hts, hr, hlk, hK, hN, hA, hX⟩ := id C
  unfold b_X2_goesBy_19 at h
  refine lv_istore_n (lv' := [(3, .int t0), (0, .ref (ad j0)), (2, .int x2)]) hx hb dX2_goesBy_19 rfl hl (by decide) rfl (fun ls hl => ?_)
  refine lv_aload_n hx hb dX2_goesBy_20 rfl (lv_at hl 1 rfl) ?_
  refine gf_2_0 C hP (p_2 hk_j0) hk_j0 wd_100 dX2_goesBy_21 ?_
  by_cases c24_1 : (FI M j0 0) = 1
  · replace h := it_t c24_1 h
    refine lv_tableIn (off := 36) (tgt := 60) hx hb dX2_goesBy_24 (by rw [c24_1]; decide) (by rw [c24_1]; decide) (by rw [c24_1]; rfl) (by decide) ?_
    refine lv_aload_n hx hb dX2_goesBy_60 rfl (lv_at hl 1 rfl) ?_
    refine lv_iload_n hx hb dX2_goesBy_61 rfl (lv_at hl 0 rfl) ?_
    obtain ⟨r62, g62, h⟩ := bd_of h
    refine call_iV (As := [.int t0]) (rest := []) C hP hD hS (c_X2_goesAsBaby hk_j0 g62) (p_2 hk_j0) ⟨2, _, _, ent_2 hk_j0, rfl, rfl⟩ (gV wd_531 wd_533 wd_15 wd_66 wd_534) ev_X2_goesAsBaby ⟨rfl, rfl⟩ ⟨Nat.le_of_ble_eq_true rfl, Nat.le_of_ble_eq_true rfl⟩ hl.1 rfl (Nat.le_of_ble_eq_true rfl) dX2_goesBy_62 (fun H locs hP hD hS => ?_)
    exact rt_i (r := r62) C hP hD hS dX2_goesBy_65 (rw_end h)
  · replace h := it_f c24_1 h
    by_cases c24_2 : (FI M j0 0) = 2
    · replace h := it_t c24_2 h
      refine lv_tableIn (off := 50) (tgt := 74) hx hb dX2_goesBy_24 (by rw [c24_2]; decide) (by rw [c24_2]; decide) (by rw [c24_2]; rfl) (by decide) ?_
      exact w_X2_goesBy_74 C hk_j0 hk_j1 hP hD hS (lv_sub hl [1, 0] rfl) h
    · replace h := it_f c24_2 h
      by_cases c24_3 : (FI M j0 0) = 3
      · replace h := it_t c24_3 h
        refine lv_tableIn (off := 42) (tgt := 66) hx hb dX2_goesBy_24 (by rw [c24_3]; decide) (by rw [c24_3]; decide) (by rw [c24_3]; rfl) (by decide) ?_
        refine lv_aload_n hx hb dX2_goesBy_66 rfl (lv_at hl 1 rfl) ?_
        refine lv_iload_n hx hb dX2_goesBy_67 rfl (lv_at hl 0 rfl) ?_
        obtain ⟨r68, g68, h⟩ := bd_of h
        refine call_iV (As := [.int t0]) (rest := []) C hP hD hS (c_X2_goesAsBaby hk_j0 g68) (p_2 hk_j0) ⟨2, _, _, ent_2 hk_j0, rfl, rfl⟩ (gV wd_531 wd_533 wd_15 wd_66 wd_534) ev_X2_goesAsBaby ⟨rfl, rfl⟩ ⟨Nat.le_of_ble_eq_true rfl, Nat.le_of_ble_eq_true rfl⟩ hl.1 rfl (Nat.le_of_ble_eq_true rfl) dX2_goesBy_68 (fun H locs hP hD hS => ?_)
        refine lv_iconst (v := 1) hx hb dX2_goesBy_71 (by decide) ?_
        refine lv_iadd hx hb dX2_goesBy_72 ?_
        exact rt_i (r := (r68 + (1 : Int32))) C hP hD hS dX2_goesBy_73 (rw_end h)
      · replace h := it_f c24_3 h
        by_cases c24_4 : (FI M j0 0) = 4
        · replace h := it_t c24_4 h
          refine lv_tableIn (off := 50) (tgt := 74) hx hb dX2_goesBy_24 (by rw [c24_4]; decide) (by rw [c24_4]; decide) (by rw [c24_4]; rfl) (by decide) ?_
          exact w_X2_goesBy_74 C hk_j0 hk_j1 hP hD hS (lv_sub hl [1, 0] rfl) h
        · replace h := it_f c24_4 h
          by_cases c24_5 : (FI M j0 0) = 5
          · replace h := it_t c24_5 h
            refine lv_tableIn (off := 64) (tgt := 88) hx hb dX2_goesBy_24 (by rw [c24_5]; decide) (by rw [c24_5]; decide) (by rw [c24_5]; rfl) (by decide) ?_
            refine lv_iload_n hx hb dX2_goesBy_88 rfl (lv_at hl 2 rfl) ?_
            refine lv_aload_n hx hb dX2_goesBy_89 rfl (lv_at hl 1 rfl) ?_
            refine gf_2_1 C hP (p_2 hk_j0) hk_j0 wd_102 dX2_goesBy_90 ?_
            refine va_mmin hx hb (hml.trans hl.1.symm) hown (hts _ wd_535) (hts _ wd_222) (hts _ wd_70) (hts _ wd_223) (Nat.le_of_ble_eq_true rfl) (Nat.le_of_ble_eq_true rfl) (Nat.zero_le _) (Nat.zero_le _) dX2_goesBy_93 ?_
            exact rt_i (r := (if (FI M j0 1) < x2 then (FI M j0 1) else x2)) C hP hD hS dX2_goesBy_96 (rw_end h)
          · replace h := it_f c24_5 h
            have e24_1 : (FI M j0 0).toInt ≠ 1 := fun q => c24_1 (Int32.toInt_inj.mp (q.trans (by decide)))
            have e24_2 : (FI M j0 0).toInt ≠ 2 := fun q => c24_2 (Int32.toInt_inj.mp (q.trans (by decide)))
            have e24_3 : (FI M j0 0).toInt ≠ 3 := fun q => c24_3 (Int32.toInt_inj.mp (q.trans (by decide)))
            have e24_4 : (FI M j0 0).toInt ≠ 4 := fun q => c24_4 (Int32.toInt_inj.mp (q.trans (by decide)))
            have e24_5 : (FI M j0 0).toInt ≠ 5 := fun q => c24_5 (Int32.toInt_inj.mp (q.trans (by decide)))
            refine lv_tableOut (tgt := 97) hx hb dX2_goesBy_24 (by omega) (by decide) ?_
            refine lv_iload_n hx hb dX2_goesBy_97 rfl (lv_at hl 0 rfl) ?_
            exact rt_i (r := t0) C hP hD hS dX2_goesBy_98 (rw_end h)
def b_X2_goesBy_0 (N : Nat) (j0 : Nat) (j1 : Nat) (M : Mem) : Option (Int32 × Mem) := bd2 (f_X3_says N j1 (0 : Int32) j0 M) fun r3 M3 => (if (FI M3 j0 6) = 0 then b_X2_goesBy_19 N j0 j1 r3 (0 : Int32) M3 else b_X2_goesBy_19 N j0 j1 r3 r3 M3)
set_option maxHeartbeats 4000000 in
set_option maxRecDepth 100000 in
theorem w_X2_goesBy_0 (C : CX p s m args meth c cX2_goesBy 4 (some .int) RX2 D cy ad zz 0 82 A) {N : Nat} {M : Mem} {j0 : Nat} (hk_j0 : kd j0 = 2) {j1 : Nat} (hk_j1 : kd j1 = 3) {rr : Int32} {M' : Mem} {H : Heap} {locs : List Loc} (hP : va_P D vwCl (pool cy ad 0 82 M) H) (hD : va_D A (pool cy ad 0 82 M)) (hS : va_S A s.heap H locs) {ls : Array Slot} (hl : lv_has ls 4 [(0, .ref (ad j0)), (1, .ref (ad j1))]) (h : b_X2_goesBy_0 N j0 j1 M = some (rr, M')) : W p l e ({ frames := 3, cells := 0, slots := 0, locals := 70 } : Room) s m args below meth c H locs 0 0 (MQ below (va_Qi (fun (x : Int32) (_ : Unit) => x = rr) (fun _ t => PA D cy ad 0 82 A M' t) A) args s 0 0 A) (F0 m 0 ls []) := by
  obtain ⟨hx, hb, hml, hown, hts, hr, hlk, hK, hN, hA, hX⟩ := id C
  unfold b_X2_goesBy_0 at h
  refine lv_aload_n hx hb dX2_goesBy_0 rfl (lv_at hl 1 rfl) ?_
  refine lv_iconst (v := 0) hx hb dX2_goesBy_1 (by decide) ?_
  refine lv_aload_n hx hb dX2_goesBy_2 rfl (lv_at hl 0 rfl) ?_
  obtain ⟨r3, M3, g3, h⟩ := bd2_of h
  refine call_iV (As := [.int (0 : Int32), .ref (ad j0)]) (rest := []) C hP hD hS (c_X3_says hk_j1 hk_j0 g3) (p_3 hk_j1) ⟨3, _, _, ent_3 hk_j1, rfl, rfl⟩ (gV wd_530 wd_468 wd_469 wd_67 wd_470) ev_X3_says ⟨rfl, rfl⟩ ⟨Nat.le_of_ble_eq_true rfl, Nat.le_of_ble_eq_true rfl⟩ hl.1 rfl (Nat.le_of_ble_eq_true rfl) dX2_goesBy_3 (fun H locs hP hD hS => ?_)
  refine lv_istore_n (lv' := [(2, .int r3), (0, .ref (ad j0)), (1, .ref (ad j1))]) hx hb dX2_goesBy_6 rfl hl (by decide) rfl (fun ls hl => ?_)
  refine lv_aload_n hx hb dX2_goesBy_7 rfl (lv_at hl 1 rfl) ?_
  refine gf_2_6 C hP (p_2 hk_j0) hk_j0 wd_113 dX2_goesBy_8 ?_
  refine lv_if_ne (tgt := 18) hx hb dX2_goesBy_11 (by decide) (fun c11 => ?_) (fun c11 => ?_)
  · replace h := it_f c11 h
    refine lv_iload_n hx hb dX2_goesBy_18 rfl (lv_at hl 0 rfl) ?_
    exact w_X2_goesBy_19 C hk_j0 hk_j1 hP hD hS (lv_sub hl [1, 0] rfl) h
  · replace h := it_t c11 h
    refine lv_iconst (v := 0) hx hb dX2_goesBy_14 (by decide) ?_
    refine lv_goto (tgt := 19) hx hb dX2_goesBy_15 (by decide) ?_
    exact w_X2_goesBy_19 C hk_j0 hk_j1 hP hD hS (lv_sub hl [1, 0] rfl) h
def f_X2_goesBy (N : Nat) (j0 : Nat) (j1 : Nat) (M : Mem) : Option (Int32 × Mem) := b_X2_goesBy_0 N j0 j1 M
theorem c_X2_goesBy {l : Launch} {D : va_G} {cy : Nat → ClassId} {ad : Nat → Nat} {zz : (Nat → Nat) × (Nat → Nat)} {N : Nat} {j0 : Nat} (hk_j0 : kd j0 = 2) {j1 : Nat} (hk_j1 : kd j1 = 3) {M : Mem} {rr : Int32} {M' : Mem} (h : f_X2_goesBy N j0 j1 M = some (rr, M')) : CTi l D cy ad zz 0 82 yX2_goesBy (.code yX2_goesBy cX2_goesBy 4 (some .int) :: tb) ({ frames := 3, cells := 0, slots := 0, locals := 70 } : Room) [.ref (ad j0), .ref (ad j1)] M rr M' := by
  intro sz
  refine CX.of (by decide +kernel) (fun p e s m args below meth c H ls C hP hD hS hl => ?_) (Nat.le_of_ble_eq_true rfl)
  exact w_X2_goesBy_0 C hk_j0 hk_j1 hP hD hS hl h
theorem ev_X2_goesBy : yX2_goesBy.cls = RX2 ∧ yX2_goesBy.cls ≠ "java/lang/invoke/MethodHandle" ∧ yX2_goesBy.cls ≠ "java/lang/invoke/VarHandle" ∧ (parseMethodDescriptor yX2_goesBy.desc).map (fun d => d.parameters.length) = some 1 := by decide +kernel
def b_X2_mindsBy_40 (N : Nat) (j0 : Nat) (j1 : Nat) (x2 : Int32) (M : Mem) : Option (Int32 × Mem) := some ((x2 + (10 : Int32)), M)
set_option maxHeartbeats 4000000 in
set_option maxRecDepth 100000 in
theorem w_X2_mindsBy_40 (C : CX p s m args meth c cX2_mindsBy 3 (some .int) RX2 D cy ad zz 0 82 A) {N : Nat} {M : Mem} {j0 : Nat} (hk_j0 : kd j0 = 2) {j1 : Nat} (hk_j1 : kd j1 = 3) {rr : Int32} {M' : Mem} {x2 : Int32} {H : Heap} {locs : List Loc} (hP : va_P D vwCl (pool cy ad 0 82 M) H) (hD : va_D A (pool cy ad 0 82 M)) (hS : va_S A s.heap H locs) {ls : Array Slot} (hl : lv_has ls 3 [(2, .int x2)]) (h : b_X2_mindsBy_40 N j0 j1 x2 M = some (rr, M')) : W p l e ({ frames := 3, cells := 0, slots := 0, locals := 70 } : Room) s m args below meth c H locs 0 0 (MQ below (va_Qi (fun (x : Int32) (_ : Unit) => x = rr) (fun _ t => PA D cy ad 0 82 A M' t) A) args s 0 0 A) (F0 m 40 ls []) := by
  obtain ⟨hx, hb, hml, hown, hts, hr, hlk, hK, hN, hA, hX⟩ := id C
  unfold b_X2_mindsBy_40 at h
  refine lv_iload_n hx hb dX2_mindsBy_40 rfl (lv_at hl 0 rfl) ?_
  refine lv_bipush (v := 10) hx hb dX2_mindsBy_41 (by decide) ?_
  refine lv_iadd hx hb dX2_mindsBy_43 ?_
  exact rt_i (r := (x2 + (10 : Int32))) C hP hD hS dX2_mindsBy_44 (rw_end h)
def b_X2_mindsBy_0 (N : Nat) (j0 : Nat) (j1 : Nat) (M : Mem) : Option (Int32 × Mem) := bd2 (f_X3_says N j1 (1 : Int32) j0 M) fun r3 M3 => (if (FI M3 j0 0) = 1 then b_X2_mindsBy_40 N j0 j1 r3 M3 else (if (FI M3 j0 0) = 2 then some (r3, M3) else (if (FI M3 j0 0) = 3 then b_X2_mindsBy_40 N j0 j1 r3 M3 else (if (FI M3 j0 0) = 4 then (if (FI M3 j0 5) ≤ (FI M3 j0 1) then some ((0 : Int32), M3) else some (r3, M3)) else some (r3, M3)))))
set_option maxHeartbeats 4000000 in
set_option maxRecDepth 100000 in
theorem w_X2_mindsBy_0 (C : CX p s m args meth c cX2_mindsBy 3 (some .int) RX2 D cy ad zz 0 82 A) {N : Nat} {M : Mem} {j0 : Nat} (hk_j0 : kd j0 = 2) {j1 : Nat} (hk_j1 : kd j1 = 3) {rr : Int32} {M' : Mem} {H : Heap} {locs : List Loc} (hP : va_P D vwCl (pool cy ad 0 82 M) H) (hD : va_D A (pool cy ad 0 82 M)) (hS : va_S A s.heap H locs) {ls : Array Slot} (hl : lv_has ls 3 [(0, .ref (ad j0)), (1, .ref (ad j1))]) (h : b_X2_mindsBy_0 N j0 j1 M = some (rr, M')) : W p l e ({ frames := 3, cells := 0, slots := 0, locals := 70 } : Room) s m args below meth c H locs 0 0 (MQ below (va_Qi (fun (x : Int32) (_ : Unit) => x = rr) (fun _ t => PA D cy ad 0 82 A M' t) A) args s 0 0 A) (F0 m 0 ls []) := by
  obtain ⟨hx, hb, hml, hown, hts, hr, hlk, hK, hN, hA, hX⟩ := id C
  unfold b_X2_mindsBy_0 at h
  refine lv_aload_n hx hb dX2_mindsBy_0 rfl (lv_at hl 1 rfl) ?_
  refine lv_iconst (v := 1) hx hb dX2_mindsBy_1 (by decide) ?_
  refine lv_aload_n hx hb dX2_mindsBy_2 rfl (lv_at hl 0 rfl) ?_
  obtain ⟨r3, M3, g3, h⟩ := bd2_of h
  refine call_iV (As := [.int (1 : Int32), .ref (ad j0)]) (rest := []) C hP hD hS (c_X3_says hk_j1 hk_j0 g3) (p_3 hk_j1) ⟨3, _, _, ent_3 hk_j1, rfl, rfl⟩ (gV wd_530 wd_468 wd_469 wd_67 wd_470) ev_X3_says ⟨rfl, rfl⟩ ⟨Nat.le_of_ble_eq_true rfl, Nat.le_of_ble_eq_true rfl⟩ hl.1 rfl (Nat.le_of_ble_eq_true rfl) dX2_mindsBy_3 (fun H locs hP hD hS => ?_)
  refine lv_istore_n (lv' := [(2, .int r3), (0, .ref (ad j0)), (1, .ref (ad j1))]) hx hb dX2_mindsBy_6 rfl hl (by decide) rfl (fun ls hl => ?_)
  refine lv_aload_n hx hb dX2_mindsBy_7 rfl (lv_at hl 1 rfl) ?_
  refine gf_2_0 C hP (p_2 hk_j0) hk_j0 wd_100 dX2_mindsBy_8 ?_
  by_cases c11_1 : (FI M3 j0 0) = 1
  · replace h := it_t c11_1 h
    refine lv_tableIn (off := 29) (tgt := 40) hx hb dX2_mindsBy_11 (by rw [c11_1]; decide) (by rw [c11_1]; decide) (by rw [c11_1]; rfl) (by decide) ?_
    exact w_X2_mindsBy_40 C hk_j0 hk_j1 hP hD hS (lv_sub hl [0] rfl) h
  · replace h := it_f c11_1 h
    by_cases c11_2 : (FI M3 j0 0) = 2
    · replace h := it_t c11_2 h
      refine lv_tableIn (off := 51) (tgt := 62) hx hb dX2_mindsBy_11 (by rw [c11_2]; decide) (by rw [c11_2]; decide) (by rw [c11_2]; rfl) (by decide) ?_
      refine lv_iload_n hx hb dX2_mindsBy_62 rfl (lv_at hl 0 rfl) ?_
      exact rt_i (r := r3) C hP hD hS dX2_mindsBy_63 (rw_end h)
    · replace h := it_f c11_2 h
      by_cases c11_3 : (FI M3 j0 0) = 3
      · replace h := it_t c11_3 h
        refine lv_tableIn (off := 29) (tgt := 40) hx hb dX2_mindsBy_11 (by rw [c11_3]; decide) (by rw [c11_3]; decide) (by rw [c11_3]; rfl) (by decide) ?_
        exact w_X2_mindsBy_40 C hk_j0 hk_j1 hP hD hS (lv_sub hl [0] rfl) h
      · replace h := it_f c11_3 h
        by_cases c11_4 : (FI M3 j0 0) = 4
        · replace h := it_t c11_4 h
          refine lv_tableIn (off := 34) (tgt := 45) hx hb dX2_mindsBy_11 (by rw [c11_4]; decide) (by rw [c11_4]; decide) (by rw [c11_4]; rfl) (by decide) ?_
          refine lv_aload_n hx hb dX2_mindsBy_45 rfl (lv_at hl 1 rfl) ?_
          refine gf_2_5 C hP (p_2 hk_j0) hk_j0 wd_111 dX2_mindsBy_46 ?_
          refine lv_aload_n hx hb dX2_mindsBy_49 rfl (lv_at hl 1 rfl) ?_
          refine gf_2_1 C hP (p_2 hk_j0) hk_j0 wd_102 dX2_mindsBy_50 ?_
          refine lv_icmp_le (tgt := 60) hx hb dX2_mindsBy_53 (by decide) (fun c53 => ?_) (fun c53 => ?_)
          · replace h := it_t c53 h
            refine lv_iconst (v := 0) hx hb dX2_mindsBy_60 (by decide) ?_
            exact rt_i (r := (0 : Int32)) C hP hD hS dX2_mindsBy_61 (rw_end h)
          · replace h := it_f c53 h
            refine lv_iload_n hx hb dX2_mindsBy_56 rfl (lv_at hl 0 rfl) ?_
            refine lv_goto (tgt := 61) hx hb dX2_mindsBy_57 (by decide) ?_
            exact rt_i (r := r3) C hP hD hS dX2_mindsBy_61 (rw_end h)
        · replace h := it_f c11_4 h
          have e11_1 : (FI M3 j0 0).toInt ≠ 1 := fun q => c11_1 (Int32.toInt_inj.mp (q.trans (by decide)))
          have e11_2 : (FI M3 j0 0).toInt ≠ 2 := fun q => c11_2 (Int32.toInt_inj.mp (q.trans (by decide)))
          have e11_3 : (FI M3 j0 0).toInt ≠ 3 := fun q => c11_3 (Int32.toInt_inj.mp (q.trans (by decide)))
          have e11_4 : (FI M3 j0 0).toInt ≠ 4 := fun q => c11_4 (Int32.toInt_inj.mp (q.trans (by decide)))
          refine lv_tableOut (tgt := 62) hx hb dX2_mindsBy_11 (by omega) (by decide) ?_
          refine lv_iload_n hx hb dX2_mindsBy_62 rfl (lv_at hl 0 rfl) ?_
          exact rt_i (r := r3) C hP hD hS dX2_mindsBy_63 (rw_end h)
def f_X2_mindsBy (N : Nat) (j0 : Nat) (j1 : Nat) (M : Mem) : Option (Int32 × Mem) := b_X2_mindsBy_0 N j0 j1 M
theorem c_X2_mindsBy {l : Launch} {D : va_G} {cy : Nat → ClassId} {ad : Nat → Nat} {zz : (Nat → Nat) × (Nat → Nat)} {N : Nat} {j0 : Nat} (hk_j0 : kd j0 = 2) {j1 : Nat} (hk_j1 : kd j1 = 3) {M : Mem} {rr : Int32} {M' : Mem} (h : f_X2_mindsBy N j0 j1 M = some (rr, M')) : CTi l D cy ad zz 0 82 yX2_mindsBy (.code yX2_mindsBy cX2_mindsBy 3 (some .int) :: tb) ({ frames := 3, cells := 0, slots := 0, locals := 70 } : Room) [.ref (ad j0), .ref (ad j1)] M rr M' := by
  intro sz
  refine CX.of (by decide +kernel) (fun p e s m args below meth c H ls C hP hD hS hl => ?_) (Nat.le_of_ble_eq_true rfl)
  exact w_X2_mindsBy_0 C hk_j0 hk_j1 hP hD hS hl h
theorem ev_X2_mindsBy : yX2_mindsBy.cls = RX2 ∧ yX2_mindsBy.cls ≠ "java/lang/invoke/MethodHandle" ∧ yX2_mindsBy.cls ≠ "java/lang/invoke/VarHandle" ∧ (parseMethodDescriptor yX2_mindsBy.desc).map (fun d => d.parameters.length) = some 1 := by decide +kernel
def b_X2_wearsBy_0 (N : Nat) (j0 : Nat) (j1 : Nat) (x2 : Int32) (M : Mem) : Option (Int32 × Mem) := bd2 (f_X3_says N j1 (2 : Int32) j0 M) fun r3 M3 => (if (FI M3 j0 0) = 2 then some ((r3 + (FI M3 j0 1)), M3) else (if (FI M3 j0 0) = 3 then (if (x2 - x2 / (3 : Int32) * (3 : Int32)) = 0 then some (r3, M3) else some ((0 : Int32), M3)) else (if (FI M3 j0 0) = 4 then some ((0 : Int32), M3) else (if (FI M3 j0 0) = 5 then some (((2 : Int32) * r3), M3) else some (r3, M3)))))
set_option maxHeartbeats 4000000 in
set_option maxRecDepth 100000 in
theorem w_X2_wearsBy_0 (C : CX p s m args meth c cX2_wearsBy 4 (some .int) RX2 D cy ad zz 0 82 A) {N : Nat} {M : Mem} {j0 : Nat} (hk_j0 : kd j0 = 2) {j1 : Nat} (hk_j1 : kd j1 = 3) {x2 : Int32} {rr : Int32} {M' : Mem} {H : Heap} {locs : List Loc} (hP : va_P D vwCl (pool cy ad 0 82 M) H) (hD : va_D A (pool cy ad 0 82 M)) (hS : va_S A s.heap H locs) {ls : Array Slot} (hl : lv_has ls 4 [(0, .ref (ad j0)), (1, .ref (ad j1)), (2, .int x2)]) (h : b_X2_wearsBy_0 N j0 j1 x2 M = some (rr, M')) : W p l e ({ frames := 3, cells := 0, slots := 0, locals := 70 } : Room) s m args below meth c H locs 0 0 (MQ below (va_Qi (fun (x : Int32) (_ : Unit) => x = rr) (fun _ t => PA D cy ad 0 82 A M' t) A) args s 0 0 A) (F0 m 0 ls []) := by
  obtain ⟨hx, hb, hml, hown, hts, hr, hlk, hK, hN, hA, hX⟩ := id C
  unfold b_X2_wearsBy_0 at h
  refine lv_aload_n hx hb dX2_wearsBy_0 rfl (lv_at hl 1 rfl) ?_
  refine lv_iconst (v := 2) hx hb dX2_wearsBy_1 (by decide) ?_
  refine lv_aload_n hx hb dX2_wearsBy_2 rfl (lv_at hl 0 rfl) ?_
  obtain ⟨r3, M3, g3, h⟩ := bd2_of h
  refine call_iV (As := [.int (2 : Int32), .ref (ad j0)]) (rest := []) C hP hD hS (c_X3_says hk_j1 hk_j0 g3) (p_3 hk_j1) ⟨3, _, _, ent_3 hk_j1, rfl, rfl⟩ (gV wd_530 wd_468 wd_469 wd_67 wd_470) ev_X3_says ⟨rfl, rfl⟩ ⟨Nat.le_of_ble_eq_true rfl, Nat.le_of_ble_eq_true rfl⟩ hl.1 rfl (Nat.le_of_ble_eq_true rfl) dX2_wearsBy_3 (fun H locs hP hD hS => ?_)
  refine lv_istore_n (lv' := [(3, .int r3), (0, .ref (ad j0)), (1, .ref (ad j1)), (2, .int x2)]) hx hb dX2_wearsBy_6 rfl hl (by decide) rfl (fun ls hl => ?_)
  refine lv_aload_n hx hb dX2_wearsBy_7 rfl (lv_at hl 1 rfl) ?_
  refine gf_2_0 C hP (p_2 hk_j0) hk_j0 wd_100 dX2_wearsBy_8 ?_
  by_cases c11_2 : (FI M3 j0 0) = 2
  · replace h := it_t c11_2 h
    refine lv_tableIn (off := 29) (tgt := 40) hx hb dX2_wearsBy_11 (by rw [c11_2]; decide) (by rw [c11_2]; decide) (by rw [c11_2]; rfl) (by decide) ?_
    refine lv_iload_n hx hb dX2_wearsBy_40 rfl (lv_at hl 0 rfl) ?_
    refine lv_aload_n hx hb dX2_wearsBy_41 rfl (lv_at hl 1 rfl) ?_
    refine gf_2_1 C hP (p_2 hk_j0) hk_j0 wd_102 dX2_wearsBy_42 ?_
    refine lv_iadd hx hb dX2_wearsBy_45 ?_
    exact rt_i (r := (r3 + (FI M3 j0 1))) C hP hD hS dX2_wearsBy_46 (rw_end h)
  · replace h := it_f c11_2 h
    by_cases c11_3 : (FI M3 j0 0) = 3
    · replace h := it_t c11_3 h
      refine lv_tableIn (off := 36) (tgt := 47) hx hb dX2_wearsBy_11 (by rw [c11_3]; decide) (by rw [c11_3]; decide) (by rw [c11_3]; rfl) (by decide) ?_
      refine lv_iload_n hx hb dX2_wearsBy_47 rfl (lv_at hl 3 rfl) ?_
      refine lv_iconst (v := 3) hx hb dX2_wearsBy_48 (by decide) ?_
      refine lv_irem hx hb dX2_wearsBy_49 (by decide) ?_
      refine lv_if_ne (tgt := 57) hx hb dX2_wearsBy_50 (by decide) (fun c50 => ?_) (fun c50 => ?_)
      · replace h := it_f c50 h
        refine lv_iconst (v := 0) hx hb dX2_wearsBy_57 (by decide) ?_
        exact rt_i (r := (0 : Int32)) C hP hD hS dX2_wearsBy_58 (rw_end h)
      · replace h := it_t c50 h
        refine lv_iload_n hx hb dX2_wearsBy_53 rfl (lv_at hl 0 rfl) ?_
        refine lv_goto (tgt := 58) hx hb dX2_wearsBy_54 (by decide) ?_
        exact rt_i (r := r3) C hP hD hS dX2_wearsBy_58 (rw_end h)
    · replace h := it_f c11_3 h
      by_cases c11_4 : (FI M3 j0 0) = 4
      · replace h := it_t c11_4 h
        refine lv_tableIn (off := 48) (tgt := 59) hx hb dX2_wearsBy_11 (by rw [c11_4]; decide) (by rw [c11_4]; decide) (by rw [c11_4]; rfl) (by decide) ?_
        refine lv_iconst (v := 0) hx hb dX2_wearsBy_59 (by decide) ?_
        exact rt_i (r := (0 : Int32)) C hP hD hS dX2_wearsBy_60 (rw_end h)
      · replace h := it_f c11_4 h
        by_cases c11_5 : (FI M3 j0 0) = 5
        · replace h := it_t c11_5 h
          refine lv_tableIn (off := 50) (tgt := 61) hx hb dX2_wearsBy_11 (by rw [c11_5]; decide) (by rw [c11_5]; decide) (by rw [c11_5]; rfl) (by decide) ?_
          refine lv_iconst (v := 2) hx hb dX2_wearsBy_61 (by decide) ?_
          refine lv_iload_n hx hb dX2_wearsBy_62 rfl (lv_at hl 0 rfl) ?_
          refine lv_imul hx hb dX2_wearsBy_63 ?_
          exact rt_i (r := ((2 : Int32) * r3)) C hP hD hS dX2_wearsBy_64 (rw_end h)
        · replace h := it_f c11_5 h
          have e11_2 : (FI M3 j0 0).toInt ≠ 2 := fun q => c11_2 (Int32.toInt_inj.mp (q.trans (by decide)))
          have e11_3 : (FI M3 j0 0).toInt ≠ 3 := fun q => c11_3 (Int32.toInt_inj.mp (q.trans (by decide)))
          have e11_4 : (FI M3 j0 0).toInt ≠ 4 := fun q => c11_4 (Int32.toInt_inj.mp (q.trans (by decide)))
          have e11_5 : (FI M3 j0 0).toInt ≠ 5 := fun q => c11_5 (Int32.toInt_inj.mp (q.trans (by decide)))
          refine lv_tableOut (tgt := 65) hx hb dX2_wearsBy_11 (by omega) (by decide) ?_
          refine lv_iload_n hx hb dX2_wearsBy_65 rfl (lv_at hl 0 rfl) ?_
          exact rt_i (r := r3) C hP hD hS dX2_wearsBy_66 (rw_end h)
def f_X2_wearsBy (N : Nat) (j0 : Nat) (j1 : Nat) (x2 : Int32) (M : Mem) : Option (Int32 × Mem) := b_X2_wearsBy_0 N j0 j1 x2 M
theorem c_X2_wearsBy {l : Launch} {D : va_G} {cy : Nat → ClassId} {ad : Nat → Nat} {zz : (Nat → Nat) × (Nat → Nat)} {N : Nat} {j0 : Nat} (hk_j0 : kd j0 = 2) {j1 : Nat} (hk_j1 : kd j1 = 3) {x2 : Int32} {M : Mem} {rr : Int32} {M' : Mem} (h : f_X2_wearsBy N j0 j1 x2 M = some (rr, M')) : CTi l D cy ad zz 0 82 yX2_wearsBy (.code yX2_wearsBy cX2_wearsBy 4 (some .int) :: tb) ({ frames := 3, cells := 0, slots := 0, locals := 70 } : Room) [.ref (ad j0), .ref (ad j1), .int x2] M rr M' := by
  intro sz
  refine CX.of (by decide +kernel) (fun p e s m args below meth c H ls C hP hD hS hl => ?_) (Nat.le_of_ble_eq_true rfl)
  exact w_X2_wearsBy_0 C hk_j0 hk_j1 hP hD hS hl h
theorem ev_X2_wearsBy : yX2_wearsBy.cls = RX2 ∧ yX2_wearsBy.cls ≠ "java/lang/invoke/MethodHandle" ∧ yX2_wearsBy.cls ≠ "java/lang/invoke/VarHandle" ∧ (parseMethodDescriptor yX2_wearsBy.desc).map (fun d => d.parameters.length) = some 2 := by decide +kernel
def b_X2_beside_8 (M : Mem) (j0 : Nat) (x1 : Int32) : Option (Int32) := (if (FI M j0 3) = 0 then (if (8 : Int32) ≤ (x1 + (1 : Int32)) then some (-1 : Int32) else some ((FI M j0 2) + (1 : Int32))) else (if (FI M j0 3) = 1 then (if (8 : Int32) ≤ (((FI M j0 2) / (8 : Int32)) + (1 : Int32)) then some (-1 : Int32) else some ((FI M j0 2) + (8 : Int32))) else (if (FI M j0 3) = 2 then (if x1 ≤ 0 then some (-1 : Int32) else some ((FI M j0 2) - (1 : Int32))) else (if ((FI M j0 2) / (8 : Int32)) ≤ 0 then some (-1 : Int32) else some ((FI M j0 2) - (8 : Int32))))))
set_option maxHeartbeats 4000000 in
set_option maxRecDepth 100000 in
theorem w_X2_beside_8 (C : CX p s m args meth c cX2_beside 3 (some .int) RX2 D cy ad zz 0 82 A) {M : Mem} {j0 : Nat} (hk_j0 : kd j0 = 2) {rr : Int32} {x1 : Int32} {H : Heap} {locs : List Loc} (hP : va_P D vwCl (pool cy ad 0 82 M) H) (hD : va_D A (pool cy ad 0 82 M)) (hS : va_S A s.heap H locs) {ls : Array Slot} (hl : lv_has ls 3 [(0, .ref (ad j0)), (1, .int x1)]) (h : b_X2_beside_8 M j0 x1 = some rr) : W p l e ({ frames := 0, cells := 0, slots := 0, locals := 0 } : Room) s m args below meth c H locs 0 0 (MQ below (va_Qi (fun (x : Int32) (_ : Unit) => x = rr) (fun _ t => PA D cy ad 0 82 A M t) A) args s 0 0 A) (F0 m 8 ls []) := by
  obtain ⟨hx, hb, hml, hown, hts, hr, hlk, hK, hN, hA, hX⟩ := id C
  unfold b_X2_beside_8 at h
  refine lv_aload_n hx hb dX2_beside_8 rfl (lv_at hl 0 rfl) ?_
  refine gf_2_2 C hP (p_2 hk_j0) hk_j0 wd_104 dX2_beside_9 ?_
  refine lv_bipush (v := 8) hx hb dX2_beside_12 (by decide) ?_
  refine lv_idiv hx hb dX2_beside_14 (by decide) ?_
  refine lv_istore_n (lv' := [(2, .int ((FI M j0 2) / (8 : Int32))), (0, .ref (ad j0)), (1, .int x1)]) hx hb dX2_beside_15 rfl hl (by decide) rfl (fun ls hl => ?_)
  refine lv_aload_n hx hb dX2_beside_16 rfl (lv_at hl 1 rfl) ?_
  refine gf_2_3 C hP (p_2 hk_j0) hk_j0 wd_107 dX2_beside_17 ?_
  by_cases c20_0 : (FI M j0 3) = 0
  · replace h := it_t c20_0 h
    refine lv_tableIn (off := 28) (tgt := 48) hx hb dX2_beside_20 (by rw [c20_0]; decide) (by rw [c20_0]; decide) (by rw [c20_0]; rfl) (by decide) ?_
    refine lv_iload_n hx hb dX2_beside_48 rfl (lv_at hl 2 rfl) ?_
    refine lv_iconst (v := 1) hx hb dX2_beside_49 (by decide) ?_
    refine lv_iadd hx hb dX2_beside_50 ?_
    refine lv_bipush (v := 8) hx hb dX2_beside_51 (by decide) ?_
    refine lv_icmp_ge (tgt := 65) hx hb dX2_beside_53 (by decide) (fun c53 => ?_) (fun c53 => ?_)
    · replace h := it_t c53 h
      refine lv_iconst (v := -1) hx hb dX2_beside_65 (by decide) ?_
      exact rt_i (r := (-1 : Int32)) C hP hD hS dX2_beside_66 ⟨Option.some.inj h, rfl⟩
    · replace h := it_f c53 h
      refine lv_aload_n hx hb dX2_beside_56 rfl (lv_at hl 1 rfl) ?_
      refine gf_2_2 C hP (p_2 hk_j0) hk_j0 wd_104 dX2_beside_57 ?_
      refine lv_iconst (v := 1) hx hb dX2_beside_60 (by decide) ?_
      refine lv_iadd hx hb dX2_beside_61 ?_
      refine lv_goto (tgt := 66) hx hb dX2_beside_62 (by decide) ?_
      exact rt_i (r := ((FI M j0 2) + (1 : Int32))) C hP hD hS dX2_beside_66 ⟨Option.some.inj h, rfl⟩
  · replace h := it_f c20_0 h
    by_cases c20_1 : (FI M j0 3) = 1
    · replace h := it_t c20_1 h
      refine lv_tableIn (off := 47) (tgt := 67) hx hb dX2_beside_20 (by rw [c20_1]; decide) (by rw [c20_1]; decide) (by rw [c20_1]; rfl) (by decide) ?_
      refine lv_iload_n hx hb dX2_beside_67 rfl (lv_at hl 0 rfl) ?_
      refine lv_iconst (v := 1) hx hb dX2_beside_68 (by decide) ?_
      refine lv_iadd hx hb dX2_beside_69 ?_
      refine lv_bipush (v := 8) hx hb dX2_beside_70 (by decide) ?_
      refine lv_icmp_ge (tgt := 85) hx hb dX2_beside_72 (by decide) (fun c72 => ?_) (fun c72 => ?_)
      · replace h := it_t c72 h
        refine lv_iconst (v := -1) hx hb dX2_beside_85 (by decide) ?_
        exact rt_i (r := (-1 : Int32)) C hP hD hS dX2_beside_86 ⟨Option.some.inj h, rfl⟩
      · replace h := it_f c72 h
        refine lv_aload_n hx hb dX2_beside_75 rfl (lv_at hl 1 rfl) ?_
        refine gf_2_2 C hP (p_2 hk_j0) hk_j0 wd_104 dX2_beside_76 ?_
        refine lv_bipush (v := 8) hx hb dX2_beside_79 (by decide) ?_
        refine lv_iadd hx hb dX2_beside_81 ?_
        refine lv_goto (tgt := 86) hx hb dX2_beside_82 (by decide) ?_
        exact rt_i (r := ((FI M j0 2) + (8 : Int32))) C hP hD hS dX2_beside_86 ⟨Option.some.inj h, rfl⟩
    · replace h := it_f c20_1 h
      by_cases c20_2 : (FI M j0 3) = 2
      · replace h := it_t c20_2 h
        refine lv_tableIn (off := 67) (tgt := 87) hx hb dX2_beside_20 (by rw [c20_2]; decide) (by rw [c20_2]; decide) (by rw [c20_2]; rfl) (by decide) ?_
        refine lv_iload_n hx hb dX2_beside_87 rfl (lv_at hl 2 rfl) ?_
        refine lv_if_le (tgt := 100) hx hb dX2_beside_88 (by decide) (fun c88 => ?_) (fun c88 => ?_)
        · replace h := it_t c88 h
          refine lv_iconst (v := -1) hx hb dX2_beside_100 (by decide) ?_
          exact rt_i (r := (-1 : Int32)) C hP hD hS dX2_beside_101 ⟨Option.some.inj h, rfl⟩
        · replace h := it_f c88 h
          refine lv_aload_n hx hb dX2_beside_91 rfl (lv_at hl 1 rfl) ?_
          refine gf_2_2 C hP (p_2 hk_j0) hk_j0 wd_104 dX2_beside_92 ?_
          refine lv_iconst (v := 1) hx hb dX2_beside_95 (by decide) ?_
          refine lv_isub hx hb dX2_beside_96 ?_
          refine lv_goto (tgt := 101) hx hb dX2_beside_97 (by decide) ?_
          exact rt_i (r := ((FI M j0 2) - (1 : Int32))) C hP hD hS dX2_beside_101 ⟨Option.some.inj h, rfl⟩
      · replace h := it_f c20_2 h
        have e20_0 : (FI M j0 3).toInt ≠ 0 := fun q => c20_0 (Int32.toInt_inj.mp (q.trans (by decide)))
        have e20_1 : (FI M j0 3).toInt ≠ 1 := fun q => c20_1 (Int32.toInt_inj.mp (q.trans (by decide)))
        have e20_2 : (FI M j0 3).toInt ≠ 2 := fun q => c20_2 (Int32.toInt_inj.mp (q.trans (by decide)))
        refine lv_tableOut (tgt := 102) hx hb dX2_beside_20 (by omega) (by decide) ?_
        refine lv_iload_n hx hb dX2_beside_102 rfl (lv_at hl 0 rfl) ?_
        refine lv_if_le (tgt := 116) hx hb dX2_beside_103 (by decide) (fun c103 => ?_) (fun c103 => ?_)
        · replace h := it_t c103 h
          refine lv_iconst (v := -1) hx hb dX2_beside_116 (by decide) ?_
          exact rt_i (r := (-1 : Int32)) C hP hD hS dX2_beside_117 ⟨Option.some.inj h, rfl⟩
        · replace h := it_f c103 h
          refine lv_aload_n hx hb dX2_beside_106 rfl (lv_at hl 1 rfl) ?_
          refine gf_2_2 C hP (p_2 hk_j0) hk_j0 wd_104 dX2_beside_107 ?_
          refine lv_bipush (v := 8) hx hb dX2_beside_110 (by decide) ?_
          refine lv_isub hx hb dX2_beside_112 ?_
          refine lv_goto (tgt := 117) hx hb dX2_beside_113 (by decide) ?_
          exact rt_i (r := ((FI M j0 2) - (8 : Int32))) C hP hD hS dX2_beside_117 ⟨Option.some.inj h, rfl⟩
def b_X2_beside_0 (M : Mem) (j0 : Nat) : Option (Int32) := b_X2_beside_8 M j0 ((FI M j0 2) - (FI M j0 2) / (8 : Int32) * (8 : Int32))
set_option maxHeartbeats 4000000 in
set_option maxRecDepth 100000 in
theorem w_X2_beside_0 (C : CX p s m args meth c cX2_beside 3 (some .int) RX2 D cy ad zz 0 82 A) {M : Mem} {j0 : Nat} (hk_j0 : kd j0 = 2) {rr : Int32} {H : Heap} {locs : List Loc} (hP : va_P D vwCl (pool cy ad 0 82 M) H) (hD : va_D A (pool cy ad 0 82 M)) (hS : va_S A s.heap H locs) {ls : Array Slot} (hl : lv_has ls 3 [(0, .ref (ad j0))]) (h : b_X2_beside_0 M j0 = some rr) : W p l e ({ frames := 0, cells := 0, slots := 0, locals := 0 } : Room) s m args below meth c H locs 0 0 (MQ below (va_Qi (fun (x : Int32) (_ : Unit) => x = rr) (fun _ t => PA D cy ad 0 82 A M t) A) args s 0 0 A) (F0 m 0 ls []) := by
  obtain ⟨hx, hb, hml, hown, hts, hr, hlk, hK, hN, hA, hX⟩ := id C
  unfold b_X2_beside_0 at h
  refine lv_aload_n hx hb dX2_beside_0 rfl (lv_at hl 0 rfl) ?_
  refine gf_2_2 C hP (p_2 hk_j0) hk_j0 wd_104 dX2_beside_1 ?_
  refine lv_bipush (v := 8) hx hb dX2_beside_4 (by decide) ?_
  refine lv_irem hx hb dX2_beside_6 (by decide) ?_
  refine lv_istore_n (lv' := [(1, .int ((FI M j0 2) - (FI M j0 2) / (8 : Int32) * (8 : Int32))), (0, .ref (ad j0))]) hx hb dX2_beside_7 rfl hl (by decide) rfl (fun ls hl => ?_)
  exact w_X2_beside_8 C hk_j0 hP hD hS (lv_sub hl [1, 0] rfl) h
def f_X2_beside (j0 : Nat) (M : Mem) : Option (Int32) := b_X2_beside_0 M j0
theorem c_X2_beside {l : Launch} {D : va_G} {cy : Nat → ClassId} {ad : Nat → Nat} {zz : (Nat → Nat) × (Nat → Nat)} {j0 : Nat} (hk_j0 : kd j0 = 2) {M : Mem} {rr : Int32} (h : f_X2_beside j0 M = some rr) : CTi l D cy ad zz 0 82 yX2_beside (.code yX2_beside cX2_beside 3 (some .int) :: tb) ({ frames := 0, cells := 0, slots := 0, locals := 0 } : Room) [.ref (ad j0)] M rr M := by
  intro sz
  refine CX.of (by decide +kernel) (fun p e s m args below meth c H ls C hP hD hS hl => ?_) (Nat.le_of_ble_eq_true rfl)
  exact w_X2_beside_0 C hk_j0 hP hD hS hl h
theorem ev_X2_beside : yX2_beside.cls = RX2 ∧ yX2_beside.cls ≠ "java/lang/invoke/MethodHandle" ∧ yX2_beside.cls ≠ "java/lang/invoke/VarHandle" ∧ (parseMethodDescriptor yX2_beside.desc).map (fun d => d.parameters.length) = some 0 := by decide +kernel
def b_X5_hasWater_0 (M : Mem) (y0 : Int64) (x2 : Int32) : Option (Bool) := (if (lg_cmp (((y0.toUInt64 >>> (x2.toInt64.toUInt64 &&& Int64.toUInt64 63)).toInt64) &&& (1 : Int64)) (0 : Int64)) = 0 then some false else some true)
set_option maxHeartbeats 4000000 in
set_option maxRecDepth 100000 in
theorem w_X5_hasWater_0 (C : CX p s m args meth c cX5_hasWater 3 (some .boolean) RX5 D cy ad zz 0 82 A) {M : Mem} {y0 : Int64} {x2 : Int32} {rr : Bool} {H : Heap} {locs : List Loc} (hP : va_P D vwCl (pool cy ad 0 82 M) H) (hD : va_D A (pool cy ad 0 82 M)) (hS : va_S A s.heap H locs) {ls : Array Slot} (hl : lv_has ls 3 [(0, .long y0), (2, .int x2)]) (h : b_X5_hasWater_0 M y0 x2 = some rr) : W p l e ({ frames := 0, cells := 0, slots := 0, locals := 0 } : Room) s m args below meth c H locs 0 0 (MQ below (va_Qi (fun (x : Int32) (_ : Unit) => x = b2i rr) (fun _ t => PA D cy ad 0 82 A M t) A) args s 0 0 A) (F0 m 0 ls []) := by
  obtain ⟨hx, hb, hml, hown, hts, hr, hlk, hK, hN, hA, hX⟩ := id C
  unfold b_X5_hasWater_0 at h
  refine lv_lload_n hx hb dX5_hasWater_0 rfl (lv_at hl 0 rfl) ?_
  refine lv_iload_n hx hb dX5_hasWater_1 rfl (lv_at hl 1 rfl) ?_
  refine lv_lushr (v := (y0.toUInt64 >>> (x2.toInt64.toUInt64 &&& Int64.toUInt64 63)).toInt64) hx hb dX5_hasWater_2 rfl ?_
  refine lv_lconst (v := 1) hx hb dX5_hasWater_3 (by decide) ?_
  refine lv_land hx hb dX5_hasWater_4 ?_
  refine lv_lconst (v := 0) hx hb dX5_hasWater_5 (by decide) ?_
  refine W.lcmp hx hb dX5_hasWater_6 ?_
  refine lv_if_eq (tgt := 14) hx hb dX5_hasWater_7 (by decide) (fun c7 => ?_) (fun c7 => ?_)
  · replace h := it_t c7 h
    refine lv_iconst (v := 0) hx hb dX5_hasWater_14 (by decide) ?_
    exact rt_z (r := false) C hP hD hS dX5_hasWater_15 ⟨Option.some.inj h, rfl⟩
  · replace h := it_f c7 h
    refine lv_iconst (v := 1) hx hb dX5_hasWater_10 (by decide) ?_
    refine lv_goto (tgt := 15) hx hb dX5_hasWater_11 (by decide) ?_
    exact rt_z (r := true) C hP hD hS dX5_hasWater_15 ⟨Option.some.inj h, rfl⟩
def f_X5_hasWater (y0 : Int64) (x2 : Int32) (M : Mem) : Option (Bool) := b_X5_hasWater_0 M y0 x2
theorem c_X5_hasWater {l : Launch} {D : va_G} {cy : Nat → ClassId} {ad : Nat → Nat} {zz : (Nat → Nat) × (Nat → Nat)} {y0 : Int64} {x2 : Int32} {M : Mem} {rr : Bool} (h : f_X5_hasWater y0 x2 M = some rr) : CTi l D cy ad zz 0 82 yX5_hasWater (.code yX5_hasWater cX5_hasWater 3 (some .boolean) :: tb) ({ frames := 0, cells := 0, slots := 0, locals := 0 } : Room) [.long y0, .int x2] M (b2i rr) M := by
  intro sz
  refine CX.of (by decide +kernel) (fun p e s m args below meth c H ls C hP hD hS hl => ?_) (Nat.le_of_ble_eq_true rfl)
  exact w_X5_hasWater_0 C hP hD hS hl h
theorem es_X5_hasWater : yX5_hasWater.cls ≠ "java/lang/invoke/MethodHandle" ∧ yX5_hasWater.cls ≠ "java/lang/invoke/VarHandle" ∧ (parseMethodDescriptor yX5_hasWater.desc).map (fun d => d.parameters.length) = some 2 := by decide +kernel
def b_X2_goOn_131 (j0 : Nat) (y1 : Int64) (x4 : Int32) (M : Mem) : Option (Bool × Mem) := some (true, (sFJ M j0 8 ((FJ M j0 8) ||| ((1 : Int64) <<< (x4.toInt64 &&& 63)))))
set_option maxHeartbeats 4000000 in
set_option maxRecDepth 100000 in
theorem w_X2_goOn_131 (C : CX p s m args meth c cX2_goOn 5 (some .boolean) RX2 D cy ad zz 0 82 A) {M : Mem} {j0 : Nat} (hk_j0 : kd j0 = 2) {y1 : Int64} {rr : Bool} {M' : Mem} {x4 : Int32} {H : Heap} {locs : List Loc} (hP : va_P D vwCl (pool cy ad 0 82 M) H) (hD : va_D A (pool cy ad 0 82 M)) (hS : va_S A s.heap H locs) {ls : Array Slot} (hl : lv_has ls 5 [(0, .ref (ad j0)), (4, .int x4)]) (h : b_X2_goOn_131 j0 y1 x4 M = some (rr, M')) : W p l e ({ frames := 1, cells := 0, slots := 0, locals := 22 } : Room) s m args below meth c H locs 0 0 (MQ below (va_Qi (fun (x : Int32) (_ : Unit) => x = b2i rr) (fun _ t => PA D cy ad 0 82 A M' t) A) args s 0 0 A) (F0 m 131 ls []) := by
  obtain ⟨hx, hb, hml, hown, hts, hr, hlk, hK, hN, hA, hX⟩ := id C
  unfold b_X2_goOn_131 at h
  refine lv_aload_n hx hb dX2_goOn_131 rfl (lv_at hl 0 rfl) ?_
  refine lv_dup hx hb dX2_goOn_132 rfl ?_
  refine gf_2_8 C hP (p_2 hk_j0) hk_j0 wd_117 dX2_goOn_133 ?_
  refine lv_lconst (v := 1) hx hb dX2_goOn_136 (by decide) ?_
  refine lv_iload hx hb dX2_goOn_137 (lv_at hl 1 rfl) ?_
  refine lv_lshl (v := ((1 : Int64) <<< (x4.toInt64 &&& 63))) hx hb dX2_goOn_139 rfl ?_
  refine lv_lor hx hb dX2_goOn_140 ?_
  refine pf_2_8 C hP hD hS (p_2 hk_j0) hk_j0 wd_117 dX2_goOn_141 (fun H locs hP hD hS => ?_)
  refine lv_iconst (v := 1) hx hb dX2_goOn_144 (by decide) ?_
  exact rt_z (r := true) C hP hD hS dX2_goOn_145 (rw_end h)
def b_X2_goOn_125 (j0 : Nat) (y1 : Int64) (x4 : Int32) (M : Mem) : Option (Bool × Mem) := b_X2_goOn_131 j0 y1 x4 (sFI M j0 2 x4)
set_option maxHeartbeats 4000000 in
set_option maxRecDepth 100000 in
theorem w_X2_goOn_125 (C : CX p s m args meth c cX2_goOn 5 (some .boolean) RX2 D cy ad zz 0 82 A) {M : Mem} {j0 : Nat} (hk_j0 : kd j0 = 2) {y1 : Int64} {rr : Bool} {M' : Mem} {x4 : Int32} {H : Heap} {locs : List Loc} (hP : va_P D vwCl (pool cy ad 0 82 M) H) (hD : va_D A (pool cy ad 0 82 M)) (hS : va_S A s.heap H locs) {ls : Array Slot} (hl : lv_has ls 5 [(0, .ref (ad j0)), (4, .int x4)]) (h : b_X2_goOn_125 j0 y1 x4 M = some (rr, M')) : W p l e ({ frames := 1, cells := 0, slots := 0, locals := 22 } : Room) s m args below meth c H locs 0 0 (MQ below (va_Qi (fun (x : Int32) (_ : Unit) => x = b2i rr) (fun _ t => PA D cy ad 0 82 A M' t) A) args s 0 0 A) (F0 m 125 ls []) := by
  obtain ⟨hx, hb, hml, hown, hts, hr, hlk, hK, hN, hA, hX⟩ := id C
  unfold b_X2_goOn_125 at h
  refine lv_aload_n hx hb dX2_goOn_125 rfl (lv_at hl 0 rfl) ?_
  refine lv_iload hx hb dX2_goOn_126 (lv_at hl 1 rfl) ?_
  refine pf_2_2 C hP hD hS (p_2 hk_j0) hk_j0 wd_104 dX2_goOn_128 (fun H locs hP hD hS => ?_)
  exact w_X2_goOn_131 C hk_j0 hP hD hS hl h
def b_X2_goOn_80 (j0 : Nat) (y1 : Int64) (x3 : Int32) (M : Mem) : Option (Bool × Mem) := (f_X2_beside j0 M).bind fun r81 => (if r81 = (-1 : Int32) then some (false, M) else (if x3 = (4 : Int32) then b_X2_goOn_125 j0 y1 r81 M else (f_X5_hasWater y1 r81 M).bind fun r102 => (if r102 = true then some (false, (sFI M j0 5 (if ((FI M j0 5) + (1 : Int32)) < (99 : Int32) then ((FI M j0 5) + (1 : Int32)) else (99 : Int32)))) else b_X2_goOn_125 j0 y1 r81 M)))
set_option maxHeartbeats 4000000 in
set_option maxRecDepth 100000 in
theorem w_X2_goOn_80 (C : CX p s m args meth c cX2_goOn 5 (some .boolean) RX2 D cy ad zz 0 82 A) {M : Mem} {j0 : Nat} (hk_j0 : kd j0 = 2) {y1 : Int64} {rr : Bool} {M' : Mem} {x3 : Int32} {H : Heap} {locs : List Loc} (hP : va_P D vwCl (pool cy ad 0 82 M) H) (hD : va_D A (pool cy ad 0 82 M)) (hS : va_S A s.heap H locs) {ls : Array Slot} (hl : lv_has ls 5 [(0, .ref (ad j0)), (1, .long y1), (3, .int x3)]) (h : b_X2_goOn_80 j0 y1 x3 M = some (rr, M')) : W p l e ({ frames := 1, cells := 0, slots := 0, locals := 22 } : Room) s m args below meth c H locs 0 0 (MQ below (va_Qi (fun (x : Int32) (_ : Unit) => x = b2i rr) (fun _ t => PA D cy ad 0 82 A M' t) A) args s 0 0 A) (F0 m 80 ls []) := by
  obtain ⟨hx, hb, hml, hown, hts, hr, hlk, hK, hN, hA, hX⟩ := id C
  unfold b_X2_goOn_80 at h
  refine lv_aload_n hx hb dX2_goOn_80 rfl (lv_at hl 0 rfl) ?_
  obtain ⟨r81, g81, h⟩ := bd_of h
  refine call_iV (As := []) (rest := []) C hP hD hS (c_X2_beside hk_j0 g81) (p_2 hk_j0) ⟨2, _, _, ent_2 hk_j0, rfl, rfl⟩ (gV wd_604 wd_606 wd_18 wd_66 wd_607) ev_X2_beside ⟨rfl, rfl⟩ ⟨Nat.le_of_ble_eq_true rfl, Nat.le_of_ble_eq_true rfl⟩ hl.1 rfl (Nat.le_of_ble_eq_true rfl) dX2_goOn_81 (fun H locs hP hD hS => ?_)
  refine lv_istore (lv' := [(4, .int r81), (0, .ref (ad j0)), (1, .long y1), (3, .int x3)]) hx hb dX2_goOn_84 hl (by decide) rfl (fun ls hl => ?_)
  refine lv_iload hx hb dX2_goOn_86 (lv_at hl 0 rfl) ?_
  refine lv_iconst (v := -1) hx hb dX2_goOn_88 (by decide) ?_
  refine lv_icmp_ne (tgt := 94) hx hb dX2_goOn_89 (by decide) (fun c89 => ?_) (fun c89 => ?_)
  · replace h := it_f c89 h
    refine lv_iload_n hx hb dX2_goOn_94 rfl (lv_at hl 3 rfl) ?_
    refine lv_iconst (v := 4) hx hb dX2_goOn_95 (by decide) ?_
    refine lv_icmp_eq (tgt := 125) hx hb dX2_goOn_96 (by decide) (fun c96 => ?_) (fun c96 => ?_)
    · replace h := it_t c96 h
      exact w_X2_goOn_125 C hk_j0 hP hD hS (lv_sub hl [1, 0] rfl) h
    · replace h := it_f c96 h
      refine lv_lload_n hx hb dX2_goOn_99 rfl (lv_at hl 2 rfl) ?_
      refine lv_iload hx hb dX2_goOn_100 (lv_at hl 0 rfl) ?_
      obtain ⟨r102, g102, h⟩ := bd_of h
      refine call_iN (As := [.long y1, .int r81]) (rest := []) C hP hD hS (c_X5_hasWater g102) hN wd_430 wd_64 wd_431 es_X5_hasWater ⟨rfl, rfl⟩ ⟨Nat.le_of_ble_eq_true rfl, Nat.le_of_ble_eq_true rfl⟩ hl.1 rfl (Nat.le_of_ble_eq_true rfl) dX2_goOn_102 (fun H locs hP hD hS => ?_)
      refine lv_if_eq (tgt := 125) hx hb dX2_goOn_105 (by decide) (fun c105 => ?_) (fun c105 => ?_)
      · replace h := it_f (b2i_n c105) h
        exact w_X2_goOn_125 C hk_j0 hP hD hS (lv_sub hl [1, 0] rfl) h
      · replace h := it_t (b2i_1 c105) h
        refine lv_aload_n hx hb dX2_goOn_108 rfl (lv_at hl 1 rfl) ?_
        refine lv_bipush (v := 99) hx hb dX2_goOn_109 (by decide) ?_
        refine lv_aload_n hx hb dX2_goOn_111 rfl (lv_at hl 1 rfl) ?_
        refine gf_2_5 C hP (p_2 hk_j0) hk_j0 wd_111 dX2_goOn_112 ?_
        refine lv_iconst (v := 1) hx hb dX2_goOn_115 (by decide) ?_
        refine lv_iadd hx hb dX2_goOn_116 ?_
        refine va_mmin hx hb (hml.trans hl.1.symm) hown (hts _ wd_535) (hts _ wd_222) (hts _ wd_70) (hts _ wd_223) (Nat.le_of_ble_eq_true rfl) (Nat.le_of_ble_eq_true rfl) (Nat.zero_le _) (Nat.zero_le _) dX2_goOn_117 ?_
        refine pf_2_5 C hP hD hS (p_2 hk_j0) hk_j0 wd_111 dX2_goOn_120 (fun H locs hP hD hS => ?_)
        refine lv_iconst (v := 0) hx hb dX2_goOn_123 (by decide) ?_
        exact rt_z (r := false) C hP hD hS dX2_goOn_124 (rw_end h)
  · replace h := it_t c89 h
    refine lv_iconst (v := 0) hx hb dX2_goOn_92 (by decide) ?_
    exact rt_z (r := false) C hP hD hS dX2_goOn_93 (rw_end h)
def b_X2_goOn_60 (j0 : Nat) (y1 : Int64) (x3 : Int32) (M : Mem) : Option (Bool × Mem) := b_X2_goOn_80 j0 y1 x3 M
set_option maxHeartbeats 4000000 in
set_option maxRecDepth 100000 in
theorem w_X2_goOn_60 (C : CX p s m args meth c cX2_goOn 5 (some .boolean) RX2 D cy ad zz 0 82 A) {M : Mem} {j0 : Nat} (hk_j0 : kd j0 = 2) {y1 : Int64} {rr : Bool} {M' : Mem} {x3 : Int32} {H : Heap} {locs : List Loc} (hP : va_P D vwCl (pool cy ad 0 82 M) H) (hD : va_D A (pool cy ad 0 82 M)) (hS : va_S A s.heap H locs) {ls : Array Slot} (hl : lv_has ls 5 [(0, .ref (ad j0)), (1, .long y1), (3, .int x3)]) (h : b_X2_goOn_60 j0 y1 x3 M = some (rr, M')) : W p l e ({ frames := 1, cells := 0, slots := 0, locals := 22 } : Room) s m args below meth c H locs 0 0 (MQ below (va_Qi (fun (x : Int32) (_ : Unit) => x = b2i rr) (fun _ t => PA D cy ad 0 82 A M' t) A) args s 0 0 A) (F0 m 60 ls []) := by
  obtain ⟨hx, hb, hml, hown, hts, hr, hlk, hK, hN, hA, hX⟩ := id C
  unfold b_X2_goOn_60 at h
  refine lv_goto (tgt := 80) hx hb dX2_goOn_60 (by decide) ?_
  exact w_X2_goOn_80 C hk_j0 hP hD hS hl h
def b_X2_goOn_36 (j0 : Nat) (y1 : Int64) (x3 : Int32) (M : Mem) : Option (Bool × Mem) := (if x3 = (3 : Int32) then some (false, M) else (if x3 = (1 : Int32) then b_X2_goOn_60 j0 y1 x3 (sFI M j0 3 (((FI M j0 3) + (3 : Int32)) - ((FI M j0 3) + (3 : Int32)) / (4 : Int32) * (4 : Int32))) else (if x3 = (2 : Int32) then b_X2_goOn_80 j0 y1 x3 (sFI M j0 3 (((FI M j0 3) + (1 : Int32)) - ((FI M j0 3) + (1 : Int32)) / (4 : Int32) * (4 : Int32))) else b_X2_goOn_80 j0 y1 x3 M)))
set_option maxHeartbeats 4000000 in
set_option maxRecDepth 100000 in
theorem w_X2_goOn_36 (C : CX p s m args meth c cX2_goOn 5 (some .boolean) RX2 D cy ad zz 0 82 A) {M : Mem} {j0 : Nat} (hk_j0 : kd j0 = 2) {y1 : Int64} {rr : Bool} {M' : Mem} {x3 : Int32} {H : Heap} {locs : List Loc} (hP : va_P D vwCl (pool cy ad 0 82 M) H) (hD : va_D A (pool cy ad 0 82 M)) (hS : va_S A s.heap H locs) {ls : Array Slot} (hl : lv_has ls 5 [(0, .ref (ad j0)), (1, .long y1), (3, .int x3)]) (h : b_X2_goOn_36 j0 y1 x3 M = some (rr, M')) : W p l e ({ frames := 1, cells := 0, slots := 0, locals := 22 } : Room) s m args below meth c H locs 0 0 (MQ below (va_Qi (fun (x : Int32) (_ : Unit) => x = b2i rr) (fun _ t => PA D cy ad 0 82 A M' t) A) args s 0 0 A) (F0 m 36 ls []) := by
  obtain ⟨hx, hb, hml, hown, hts, hr, hlk, hK, hN, hA, hX⟩ := id C
  unfold b_X2_goOn_36 at h
  refine lv_iload_n hx hb dX2_goOn_36 rfl (lv_at hl 2 rfl) ?_
  refine lv_iconst (v := 3) hx hb dX2_goOn_37 (by decide) ?_
  refine lv_icmp_ne (tgt := 43) hx hb dX2_goOn_38 (by decide) (fun c38 => ?_) (fun c38 => ?_)
  · replace h := it_f c38 h
    refine lv_iload_n hx hb dX2_goOn_43 rfl (lv_at hl 2 rfl) ?_
    refine lv_iconst (v := 1) hx hb dX2_goOn_44 (by decide) ?_
    refine lv_icmp_ne (tgt := 63) hx hb dX2_goOn_45 (by decide) (fun c45 => ?_) (fun c45 => ?_)
    · replace h := it_f c45 h
      refine lv_iload_n hx hb dX2_goOn_63 rfl (lv_at hl 2 rfl) ?_
      refine lv_iconst (v := 2) hx hb dX2_goOn_64 (by decide) ?_
      refine lv_icmp_ne (tgt := 80) hx hb dX2_goOn_65 (by decide) (fun c65 => ?_) (fun c65 => ?_)
      · replace h := it_f c65 h
        exact w_X2_goOn_80 C hk_j0 hP hD hS hl h
      · replace h := it_t c65 h
        refine lv_aload_n hx hb dX2_goOn_68 rfl (lv_at hl 0 rfl) ?_
        refine lv_aload_n hx hb dX2_goOn_69 rfl (lv_at hl 0 rfl) ?_
        refine gf_2_3 C hP (p_2 hk_j0) hk_j0 wd_107 dX2_goOn_70 ?_
        refine lv_iconst (v := 1) hx hb dX2_goOn_73 (by decide) ?_
        refine lv_iadd hx hb dX2_goOn_74 ?_
        refine lv_iconst (v := 4) hx hb dX2_goOn_75 (by decide) ?_
        refine lv_irem hx hb dX2_goOn_76 (by decide) ?_
        refine pf_2_3 C hP hD hS (p_2 hk_j0) hk_j0 wd_107 dX2_goOn_77 (fun H locs hP hD hS => ?_)
        exact w_X2_goOn_80 C hk_j0 hP hD hS hl h
    · replace h := it_t c45 h
      refine lv_aload_n hx hb dX2_goOn_48 rfl (lv_at hl 0 rfl) ?_
      refine lv_aload_n hx hb dX2_goOn_49 rfl (lv_at hl 0 rfl) ?_
      refine gf_2_3 C hP (p_2 hk_j0) hk_j0 wd_107 dX2_goOn_50 ?_
      refine lv_iconst (v := 3) hx hb dX2_goOn_53 (by decide) ?_
      refine lv_iadd hx hb dX2_goOn_54 ?_
      refine lv_iconst (v := 4) hx hb dX2_goOn_55 (by decide) ?_
      refine lv_irem hx hb dX2_goOn_56 (by decide) ?_
      refine pf_2_3 C hP hD hS (p_2 hk_j0) hk_j0 wd_107 dX2_goOn_57 (fun H locs hP hD hS => ?_)
      exact w_X2_goOn_60 C hk_j0 hP hD hS hl h
  · replace h := it_t c38 h
    refine lv_iconst (v := 0) hx hb dX2_goOn_41 (by decide) ?_
    exact rt_z (r := false) C hP hD hS dX2_goOn_42 (rw_end h)
def b_X2_goOn_33 (j0 : Nat) (y1 : Int64) (x3 : Int32) (t1 : Int32) (M : Mem) : Option (Bool × Mem) := b_X2_goOn_36 j0 y1 x3 (sFI M j0 4 t1)
set_option maxHeartbeats 4000000 in
set_option maxRecDepth 100000 in
theorem w_X2_goOn_33 (C : CX p s m args meth c cX2_goOn 5 (some .boolean) RX2 D cy ad zz 0 82 A) {M : Mem} {j0 : Nat} (hk_j0 : kd j0 = 2) {y1 : Int64} {rr : Bool} {M' : Mem} {x3 : Int32} {t1 : Int32} {H : Heap} {locs : List Loc} (hP : va_P D vwCl (pool cy ad 0 82 M) H) (hD : va_D A (pool cy ad 0 82 M)) (hS : va_S A s.heap H locs) {ls : Array Slot} (hl : lv_has ls 5 [(0, .ref (ad j0)), (1, .long y1), (3, .int x3)]) (h : b_X2_goOn_33 j0 y1 x3 t1 M = some (rr, M')) : W p l e ({ frames := 1, cells := 0, slots := 0, locals := 22 } : Room) s m args below meth c H locs 0 0 (MQ below (va_Qi (fun (x : Int32) (_ : Unit) => x = b2i rr) (fun _ t => PA D cy ad 0 82 A M' t) A) args s 0 0 A) (F0 m 33 ls [.int t1, .ref (ad j0)]) := by
  obtain ⟨hx, hb, hml, hown, hts, hr, hlk, hK, hN, hA, hX⟩ := id C
  unfold b_X2_goOn_33 at h
  refine pf_2_4 C hP hD hS (p_2 hk_j0) hk_j0 wd_109 dX2_goOn_33 (fun H locs hP hD hS => ?_)
  exact w_X2_goOn_36 C hk_j0 hP hD hS hl h
def b_X2_goOn_0 (j0 : Nat) (y1 : Int64) (M : Mem) : Option (Bool × Mem) := (f_X2_stitchAt j0 (FI M j0 4) M).bind fun r5 => (if (FI M j0 7) ≤ ((FI M j0 4) + (1 : Int32)) then b_X2_goOn_33 j0 y1 r5 (0 : Int32) M else b_X2_goOn_33 j0 y1 r5 ((FI M j0 4) + (1 : Int32)) M)
set_option maxHeartbeats 4000000 in
set_option maxRecDepth 100000 in
theorem w_X2_goOn_0 (C : CX p s m args meth c cX2_goOn 5 (some .boolean) RX2 D cy ad zz 0 82 A) {M : Mem} {j0 : Nat} (hk_j0 : kd j0 = 2) {y1 : Int64} {rr : Bool} {M' : Mem} {H : Heap} {locs : List Loc} (hP : va_P D vwCl (pool cy ad 0 82 M) H) (hD : va_D A (pool cy ad 0 82 M)) (hS : va_S A s.heap H locs) {ls : Array Slot} (hl : lv_has ls 5 [(0, .ref (ad j0)), (1, .long y1)]) (h : b_X2_goOn_0 j0 y1 M = some (rr, M')) : W p l e ({ frames := 1, cells := 0, slots := 0, locals := 22 } : Room) s m args below meth c H locs 0 0 (MQ below (va_Qi (fun (x : Int32) (_ : Unit) => x = b2i rr) (fun _ t => PA D cy ad 0 82 A M' t) A) args s 0 0 A) (F0 m 0 ls []) := by
  obtain ⟨hx, hb, hml, hown, hts, hr, hlk, hK, hN, hA, hX⟩ := id C
  unfold b_X2_goOn_0 at h
  refine lv_aload_n hx hb dX2_goOn_0 rfl (lv_at hl 0 rfl) ?_
  refine lv_aload_n hx hb dX2_goOn_1 rfl (lv_at hl 0 rfl) ?_
  refine gf_2_4 C hP (p_2 hk_j0) hk_j0 wd_109 dX2_goOn_2 ?_
  obtain ⟨r5, g5, h⟩ := bd_of h
  refine call_iV (As := [.int (FI M j0 4)]) (rest := []) C hP hD hS (c_X2_stitchAt hk_j0 g5) (p_2 hk_j0) ⟨2, _, _, ent_2 hk_j0, rfl, rfl⟩ (gV wd_603 wd_545 wd_546 wd_66 wd_547) ev_X2_stitchAt ⟨rfl, rfl⟩ ⟨Nat.le_of_ble_eq_true rfl, Nat.le_of_ble_eq_true rfl⟩ hl.1 rfl (Nat.le_of_ble_eq_true rfl) dX2_goOn_5 (fun H locs hP hD hS => ?_)
  refine lv_istore_n (lv' := [(3, .int r5), (0, .ref (ad j0)), (1, .long y1)]) hx hb dX2_goOn_8 rfl hl (by decide) rfl (fun ls hl => ?_)
  refine lv_aload_n hx hb dX2_goOn_9 rfl (lv_at hl 1 rfl) ?_
  refine lv_aload_n hx hb dX2_goOn_10 rfl (lv_at hl 1 rfl) ?_
  refine gf_2_4 C hP (p_2 hk_j0) hk_j0 wd_109 dX2_goOn_11 ?_
  refine lv_iconst (v := 1) hx hb dX2_goOn_14 (by decide) ?_
  refine lv_iadd hx hb dX2_goOn_15 ?_
  refine lv_aload_n hx hb dX2_goOn_16 rfl (lv_at hl 1 rfl) ?_
  refine gf_2_7 C hP (p_2 hk_j0) hk_j0 wd_115 dX2_goOn_17 ?_
  refine lv_icmp_ge (tgt := 32) hx hb dX2_goOn_20 (by decide) (fun c20 => ?_) (fun c20 => ?_)
  · replace h := it_t c20 h
    refine lv_iconst (v := 0) hx hb dX2_goOn_32 (by decide) ?_
    exact w_X2_goOn_33 C hk_j0 hP hD hS (lv_sub hl [1, 2, 0] rfl) h
  · replace h := it_f c20 h
    refine lv_aload_n hx hb dX2_goOn_23 rfl (lv_at hl 1 rfl) ?_
    refine gf_2_4 C hP (p_2 hk_j0) hk_j0 wd_109 dX2_goOn_24 ?_
    refine lv_iconst (v := 1) hx hb dX2_goOn_27 (by decide) ?_
    refine lv_iadd hx hb dX2_goOn_28 ?_
    refine lv_goto (tgt := 33) hx hb dX2_goOn_29 (by decide) ?_
    exact w_X2_goOn_33 C hk_j0 hP hD hS (lv_sub hl [1, 2, 0] rfl) h
def f_X2_goOn (j0 : Nat) (y1 : Int64) (M : Mem) : Option (Bool × Mem) := b_X2_goOn_0 j0 y1 M
theorem c_X2_goOn {l : Launch} {D : va_G} {cy : Nat → ClassId} {ad : Nat → Nat} {zz : (Nat → Nat) × (Nat → Nat)} {j0 : Nat} (hk_j0 : kd j0 = 2) {y1 : Int64} {M : Mem} {rr : Bool} {M' : Mem} (h : f_X2_goOn j0 y1 M = some (rr, M')) : CTi l D cy ad zz 0 82 yX2_goOn (.code yX2_goOn cX2_goOn 5 (some .boolean) :: tb) ({ frames := 1, cells := 0, slots := 0, locals := 22 } : Room) [.ref (ad j0), .long y1] M (b2i rr) M' := by
  intro sz
  refine CX.of (by decide +kernel) (fun p e s m args below meth c H ls C hP hD hS hl => ?_) (Nat.le_of_ble_eq_true rfl)
  exact w_X2_goOn_0 C hk_j0 hP hD hS hl h
theorem ev_X2_goOn : yX2_goOn.cls = RX2 ∧ yX2_goOn.cls ≠ "java/lang/invoke/MethodHandle" ∧ yX2_goOn.cls ≠ "java/lang/invoke/VarHandle" ∧ (parseMethodDescriptor yX2_goOn.desc).map (fun d => d.parameters.length) = some 1 := by decide +kernel
def b_X2_walk_39 (N : Nat) (j0 : Nat) (j1 : Nat) (x2 : Int32) (y3 : Int64) (x6 : Int32) (x7 : Int32) (M : Mem) : Option (Int32 × Mem) := some (x7, (sFI M j0 6 (if (0 : Int32) < ((FI M j0 6) - x6) then ((FI M j0 6) - x6) else (0 : Int32))))
set_option maxHeartbeats 4000000 in
set_option maxRecDepth 100000 in
theorem w_X2_walk_39 (C : CX p s m args meth c cX2_walk 8 (some .int) RX2 D cy ad zz 0 82 A) {N : Nat} {M : Mem} {j0 : Nat} (hk_j0 : kd j0 = 2) {j1 : Nat} (hk_j1 : kd j1 = 3) {x2 : Int32} {y3 : Int64} {rr : Int32} {M' : Mem} {x6 : Int32} {x7 : Int32} {H : Heap} {locs : List Loc} (hP : va_P D vwCl (pool cy ad 0 82 M) H) (hD : va_D A (pool cy ad 0 82 M)) (hS : va_S A s.heap H locs) {ls : Array Slot} (hl : lv_has ls 8 [(0, .ref (ad j0)), (6, .int x6), (7, .int x7)]) (h : b_X2_walk_39 N j0 j1 x2 y3 x6 x7 M = some (rr, M')) : W p l e ({ frames := 4, cells := 0, slots := 0, locals := 93 } : Room) s m args below meth c H locs 0 0 (MQ below (va_Qi (fun (x : Int32) (_ : Unit) => x = rr) (fun _ t => PA D cy ad 0 82 A M' t) A) args s 0 0 A) (F0 m 39 ls []) := by
  obtain ⟨hx, hb, hml, hown, hts, hr, hlk, hK, hN, hA, hX⟩ := id C
  unfold b_X2_walk_39 at h
  refine lv_aload_n hx hb dX2_walk_39 rfl (lv_at hl 0 rfl) ?_
  refine lv_iconst (v := 0) hx hb dX2_walk_40 (by decide) ?_
  refine lv_aload_n hx hb dX2_walk_41 rfl (lv_at hl 0 rfl) ?_
  refine gf_2_6 C hP (p_2 hk_j0) hk_j0 wd_113 dX2_walk_42 ?_
  refine lv_iload hx hb dX2_walk_45 (lv_at hl 1 rfl) ?_
  refine lv_isub hx hb dX2_walk_47 ?_
  refine va_mmax hx hb (hml.trans hl.1.symm) hown (hts _ wd_609) (hts _ wd_473) (hts _ wd_70) (hts _ wd_474) (Nat.le_of_ble_eq_true rfl) (Nat.le_of_ble_eq_true rfl) (Nat.zero_le _) (Nat.zero_le _) dX2_walk_48 ?_
  refine pf_2_6 C hP hD hS (p_2 hk_j0) hk_j0 wd_113 dX2_walk_51 (fun H locs hP hD hS => ?_)
  refine lv_iload hx hb dX2_walk_54 (lv_at hl 2 rfl) ?_
  exact rt_i (r := x7) C hP hD hS dX2_walk_56 (rw_end h)
def b_X2_walk_18 (N : Nat) (j0 : Nat) (j1 : Nat) (x2 : Int32) (y3 : Int64) : Nat → Int32 → Int32 → Int32 → Mem → Option (Int32 × Mem)
  | 0, _, _, _, _ => none
  | fu + 1, x5, x6, x7, M => (if x5 ≤ x7 then b_X2_walk_39 N j0 j1 x2 y3 x6 x7 M else bd2 (f_X2_goOn j0 y3 M) fun r27 M27 => (if r27 = true then b_X2_walk_18 N j0 j1 x2 y3 fu x5 x6 (x7 + (1 : Int32)) M27 else b_X2_walk_39 N j0 j1 x2 y3 x6 x7 M27))
set_option maxHeartbeats 4000000 in
set_option maxRecDepth 100000 in
theorem w_X2_walk_18 (C : CX p s m args meth c cX2_walk 8 (some .int) RX2 D cy ad zz 0 82 A) {N : Nat} {j0 : Nat} (hk_j0 : kd j0 = 2) {j1 : Nat} (hk_j1 : kd j1 = 3) {x2 : Int32} {y3 : Int64} {rr : Int32} {M' : Mem}  : ∀ (fu : Nat), ∀ (x5 : Int32), ∀ (x6 : Int32), ∀ (x7 : Int32), ∀ (M : Mem), ∀ (H : Heap) (locs : List Loc), va_P D vwCl (pool cy ad 0 82 M) H → va_D A (pool cy ad 0 82 M) → va_S A s.heap H locs → ∀ (ls : Array Slot), lv_has ls 8 [(0, .ref (ad j0)), (3, .long y3), (5, .int x5), (6, .int x6), (7, .int x7)] → b_X2_walk_18 N j0 j1 x2 y3 fu x5 x6 x7 M = some (rr, M') → W p l e ({ frames := 4, cells := 0, slots := 0, locals := 93 } : Room) s m args below meth c H locs 0 0 (MQ below (va_Qi (fun (x : Int32) (_ : Unit) => x = rr) (fun _ t => PA D cy ad 0 82 A M' t) A) args s 0 0 A) (F0 m 18 ls []) := by
  obtain ⟨hx, hb, hml, hown, hts, hr, hlk, hK, hN, hA, hX⟩ := id C
  intro fu
  induction fu with
  | zero =>
    intro x5 x6 x7 M H locs hP hD hS ls hl h
    exact no_some (show none = some _ from h)
  | succ fu ih =>
    intro x5 x6 x7 M H locs hP hD hS ls hl h
    rw [b_X2_walk_18] at h
    refine lv_iload hx hb dX2_walk_18 (lv_at hl 4 rfl) ?_
    refine lv_iload hx hb dX2_walk_20 (lv_at hl 2 rfl) ?_
    refine lv_icmp_ge (tgt := 39) hx hb dX2_walk_22 (by decide) (fun c22 => ?_) (fun c22 => ?_)
    · replace h := it_t c22 h
      exact w_X2_walk_39 C hk_j0 hk_j1 hP hD hS (lv_sub hl [0, 3, 4] rfl) h
    · replace h := it_f c22 h
      refine lv_aload_n hx hb dX2_walk_25 rfl (lv_at hl 0 rfl) ?_
      refine lv_lload_n hx hb dX2_walk_26 rfl (lv_at hl 1 rfl) ?_
      obtain ⟨r27, M27, g27, h⟩ := bd2_of h
      refine call_iV (As := [.long y3]) (rest := []) C hP hD hS (c_X2_goOn hk_j0 g27) (p_2 hk_j0) ⟨2, _, _, ent_2 hk_j0, rfl, rfl⟩ (gV wd_599 wd_601 wd_17 wd_66 wd_602) ev_X2_goOn ⟨rfl, rfl⟩ ⟨Nat.le_of_ble_eq_true rfl, Nat.le_of_ble_eq_true rfl⟩ hl.1 rfl (Nat.le_of_ble_eq_true rfl) dX2_walk_27 (fun H locs hP hD hS => ?_)
      refine lv_if_eq (tgt := 39) hx hb dX2_walk_30 (by decide) (fun c30 => ?_) (fun c30 => ?_)
      · replace h := it_f (b2i_n c30) h
        exact w_X2_walk_39 C hk_j0 hk_j1 hP hD hS (lv_sub hl [0, 3, 4] rfl) h
      · replace h := it_t (b2i_1 c30) h
        refine lv_iinc (v := (x7 + (1 : Int32))) (lv' := [(7, .int (x7 + (1 : Int32))), (0, .ref (ad j0)), (3, .long y3), (5, .int x5), (6, .int x6)]) hx hb dX2_walk_33 hl (k := 4) rfl rfl (by decide) rfl (fun ls hl => ?_)
        refine lv_goto (tgt := 18) hx hb dX2_walk_36 (by decide) ?_
        exact ih _ _ _ _ _ _ hP hD hS _ (lv_sub hl [1, 2, 3, 4, 0] rfl) h
def b_X2_walk_0 (N : Nat) (j0 : Nat) (j1 : Nat) (x2 : Int32) (y3 : Int64) (M : Mem) : Option (Int32 × Mem) := bd2 (f_X2_goesBy N j0 j1 M) fun r2 M2 => bd2 (f_X2_wearsBy N j0 j1 x2 M2) fun r10 M10 => b_X2_walk_18 N j0 j1 x2 y3 N r2 r10 (0 : Int32) M10
set_option maxHeartbeats 4000000 in
set_option maxRecDepth 100000 in
theorem w_X2_walk_0 (C : CX p s m args meth c cX2_walk 8 (some .int) RX2 D cy ad zz 0 82 A) {N : Nat} {M : Mem} {j0 : Nat} (hk_j0 : kd j0 = 2) {j1 : Nat} (hk_j1 : kd j1 = 3) {x2 : Int32} {y3 : Int64} {rr : Int32} {M' : Mem} {H : Heap} {locs : List Loc} (hP : va_P D vwCl (pool cy ad 0 82 M) H) (hD : va_D A (pool cy ad 0 82 M)) (hS : va_S A s.heap H locs) {ls : Array Slot} (hl : lv_has ls 8 [(0, .ref (ad j0)), (1, .ref (ad j1)), (2, .int x2), (3, .long y3)]) (h : b_X2_walk_0 N j0 j1 x2 y3 M = some (rr, M')) : W p l e ({ frames := 4, cells := 0, slots := 0, locals := 93 } : Room) s m args below meth c H locs 0 0 (MQ below (va_Qi (fun (x : Int32) (_ : Unit) => x = rr) (fun _ t => PA D cy ad 0 82 A M' t) A) args s 0 0 A) (F0 m 0 ls []) := by
  obtain ⟨hx, hb, hml, hown, hts, hr, hlk, hK, hN, hA, hX⟩ := id C
  unfold b_X2_walk_0 at h
  refine lv_aload_n hx hb dX2_walk_0 rfl (lv_at hl 0 rfl) ?_
  refine lv_aload_n hx hb dX2_walk_1 rfl (lv_at hl 1 rfl) ?_
  obtain ⟨r2, M2, g2, h⟩ := bd2_of h
  refine call_iV (As := [.ref (ad j1)]) (rest := []) C hP hD hS (c_X2_goesBy hk_j0 hk_j1 g2) (p_2 hk_j0) ⟨2, _, _, ent_2 hk_j0, rfl, rfl⟩ (gV wd_597 wd_527 wd_528 wd_66 wd_529) ev_X2_goesBy ⟨rfl, rfl⟩ ⟨Nat.le_of_ble_eq_true rfl, Nat.le_of_ble_eq_true rfl⟩ hl.1 rfl (Nat.le_of_ble_eq_true rfl) dX2_walk_2 (fun H locs hP hD hS => ?_)
  refine lv_istore (lv' := [(5, .int r2), (0, .ref (ad j0)), (1, .ref (ad j1)), (2, .int x2), (3, .long y3)]) hx hb dX2_walk_5 hl (by decide) rfl (fun ls hl => ?_)
  refine lv_aload_n hx hb dX2_walk_7 rfl (lv_at hl 1 rfl) ?_
  refine lv_aload_n hx hb dX2_walk_8 rfl (lv_at hl 2 rfl) ?_
  refine lv_iload_n hx hb dX2_walk_9 rfl (lv_at hl 3 rfl) ?_
  obtain ⟨r10, M10, g10, h⟩ := bd2_of h
  refine call_iV (As := [.ref (ad j1), .int x2]) (rest := []) C hP hD hS (c_X2_wearsBy hk_j0 hk_j1 g10) (p_2 hk_j0) ⟨2, _, _, ent_2 hk_j0, rfl, rfl⟩ (gV wd_598 wd_541 wd_542 wd_66 wd_543) ev_X2_wearsBy ⟨rfl, rfl⟩ ⟨Nat.le_of_ble_eq_true rfl, Nat.le_of_ble_eq_true rfl⟩ hl.1 rfl (Nat.le_of_ble_eq_true rfl) dX2_walk_10 (fun H locs hP hD hS => ?_)
  refine lv_istore (lv' := [(6, .int r10), (5, .int r2), (0, .ref (ad j0)), (1, .ref (ad j1)), (2, .int x2), (3, .long y3)]) hx hb dX2_walk_13 hl (by decide) rfl (fun ls hl => ?_)
  refine lv_iconst (v := 0) hx hb dX2_walk_15 (by decide) ?_
  refine lv_istore (lv' := [(7, .int (0 : Int32)), (6, .int r10), (5, .int r2), (0, .ref (ad j0)), (1, .ref (ad j1)), (2, .int x2), (3, .long y3)]) hx hb dX2_walk_16 hl (by decide) rfl (fun ls hl => ?_)
  exact w_X2_walk_18 C hk_j0 hk_j1 N _ _ _ _ _ _ hP hD hS _ (lv_sub hl [3, 6, 2, 1, 0] rfl) h
def f_X2_walk (N : Nat) (j0 : Nat) (j1 : Nat) (x2 : Int32) (y3 : Int64) (M : Mem) : Option (Int32 × Mem) := b_X2_walk_0 N j0 j1 x2 y3 M
theorem c_X2_walk {l : Launch} {D : va_G} {cy : Nat → ClassId} {ad : Nat → Nat} {zz : (Nat → Nat) × (Nat → Nat)} {N : Nat} {j0 : Nat} (hk_j0 : kd j0 = 2) {j1 : Nat} (hk_j1 : kd j1 = 3) {x2 : Int32} {y3 : Int64} {M : Mem} {rr : Int32} {M' : Mem} (h : f_X2_walk N j0 j1 x2 y3 M = some (rr, M')) : CTi l D cy ad zz 0 82 yX2_walk (.code yX2_walk cX2_walk 8 (some .int) :: tb) ({ frames := 4, cells := 0, slots := 0, locals := 93 } : Room) [.ref (ad j0), .ref (ad j1), .int x2, .long y3] M rr M' := by
  intro sz
  refine CX.of (by decide +kernel) (fun p e s m args below meth c H ls C hP hD hS hl => ?_) (Nat.le_of_ble_eq_true rfl)
  exact w_X2_walk_0 C hk_j0 hk_j1 hP hD hS hl h
theorem ev_X2_walk : yX2_walk.cls = RX2 ∧ yX2_walk.cls ≠ "java/lang/invoke/MethodHandle" ∧ yX2_walk.cls ≠ "java/lang/invoke/VarHandle" ∧ (parseMethodDescriptor yX2_walk.desc).map (fun d => d.parameters.length) = some 3 := by decide +kernel
def b_X4_becomeAs_34 (N : Nat) (j0 : Nat) (j1 : Nat) : Nat → Int32 → Mem → Option (Mem)
  | 0, _, _ => none
  | fu + 1, x2, M => (if (FI M j0 3) ≤ x2 then some M else (if (6 : Int32) ≤ x2 then some M else gd (inb x2 (len (j0 + 41))) (gd (inb x2 (len (j1 + 41))) (gd (isK (AR (j0 + 41) x2.toNatClampNeg) 2) (gd (isK (AR (j1 + 41) x2.toNatClampNeg) 2) ((f_X2_becomeAs (AR (j0 + 41) x2.toNatClampNeg) (AR (j1 + 41) x2.toNatClampNeg) M).bind fun M60 => b_X4_becomeAs_34 N j0 j1 fu (x2 + (1 : Int32)) M60))))))
set_option maxHeartbeats 4000000 in
set_option maxRecDepth 100000 in
theorem w_X4_becomeAs_34 (C : CX p s m args meth c cX4_becomeAs 3 none RX4 D cy ad zz 0 82 A) {N : Nat} {j0 : Nat} (hk_j0 : kd j0 = 4) {j1 : Nat} (hk_j1 : kd j1 = 4) {M' : Mem}  : ∀ (fu : Nat), ∀ (x2 : Int32), ∀ (M : Mem), ∀ (H : Heap) (locs : List Loc), va_P D vwCl (pool cy ad 0 82 M) H → va_D A (pool cy ad 0 82 M) → va_S A s.heap H locs → ∀ (ls : Array Slot), lv_has ls 3 [(0, .ref (ad j0)), (1, .ref (ad j1)), (2, .int x2)] → b_X4_becomeAs_34 N j0 j1 fu x2 M = some M' → W p l e ({ frames := 2, cells := 0, slots := 0, locals := 81 } : Room) s m args below meth c H locs 0 0 (MQ below (va_Qv (fun (_ : Unit) => True) (fun _ t => PA D cy ad 0 82 A M' t) A) args s 0 0 A) (F0 m 34 ls []) := by
  obtain ⟨hx, hb, hml, hown, hts, hr, hlk, hK, hN, hA, hX⟩ := id C
  intro fu
  induction fu with
  | zero =>
    intro x2 M H locs hP hD hS ls hl h
    exact no_some (show none = some _ from h)
  | succ fu ih =>
    intro x2 M H locs hP hD hS ls hl h
    rw [b_X4_becomeAs_34] at h
    refine lv_iload_n hx hb dX4_becomeAs_34 rfl (lv_at hl 2 rfl) ?_
    refine lv_aload_n hx hb dX4_becomeAs_35 rfl (lv_at hl 0 rfl) ?_
    refine gf_4_3 C hP (p_4 hk_j0) hk_j0 wd_148 dX4_becomeAs_36 ?_
    refine lv_icmp_ge (tgt := 69) hx hb dX4_becomeAs_39 (by decide) (fun c39 => ?_) (fun c39 => ?_)
    · replace h := it_t c39 h
      exact rt_v C hP hD hS dX4_becomeAs_69 (Option.some.inj h)
    · replace h := it_f c39 h
      refine lv_iload_n hx hb dX4_becomeAs_42 rfl (lv_at hl 2 rfl) ?_
      refine lv_bipush (v := 6) hx hb dX4_becomeAs_43 (by decide) ?_
      refine lv_icmp_ge (tgt := 69) hx hb dX4_becomeAs_45 (by decide) (fun c45 => ?_) (fun c45 => ?_)
      · replace h := it_t c45 h
        exact rt_v C hP hD hS dX4_becomeAs_69 (Option.some.inj h)
      · replace h := it_f c45 h
        refine lv_aload_n hx hb dX4_becomeAs_48 rfl (lv_at hl 0 rfl) ?_
        refine gf_4_4 C hP (p_4 hk_j0) hk_j0 wd_150 dX4_becomeAs_49 ?_
        refine lv_iload_n hx hb dX4_becomeAs_52 rfl (lv_at hl 2 rfl) ?_
        obtain ⟨gi1, h⟩ := gd_of h
        refine aa_10 C hP (p_4_4 hk_j0) (k_4_4 hk_j0) gi1 dX4_becomeAs_53 ?_
        refine lv_aload_n hx hb dX4_becomeAs_54 rfl (lv_at hl 1 rfl) ?_
        refine gf_4_4 C hP (p_4 hk_j1) hk_j1 wd_150 dX4_becomeAs_55 ?_
        refine lv_iload_n hx hb dX4_becomeAs_58 rfl (lv_at hl 2 rfl) ?_
        obtain ⟨gi2, h⟩ := gd_of h
        refine aa_10 C hP (p_4_4 hk_j1) (k_4_4 hk_j1) gi2 dX4_becomeAs_59 ?_
        obtain ⟨gk3, h⟩ := gd_of h
        obtain ⟨gk4, h⟩ := gd_of h
        obtain ⟨M60, g60, h⟩ := bd_of h
        refine call_vV (As := [.ref (ad (AR (j1 + 41) x2.toNatClampNeg))]) (rest := []) C hP hD hS (c_X2_becomeAs (isK_of gk3) (isK_of gk4) g60) (p_2 (isK_of gk3)) ⟨2, _, _, ent_2 (isK_of gk3), rfl, rfl⟩ (gV wd_619 wd_620 wd_621 wd_66 wd_622) ev_X2_becomeAs ⟨rfl, rfl⟩ ⟨Nat.le_of_ble_eq_true rfl, Nat.le_of_ble_eq_true rfl⟩ hl.1 rfl (Nat.le_of_ble_eq_true rfl) dX4_becomeAs_60 (fun H locs hP hD hS => ?_)
        refine lv_iinc (v := (x2 + (1 : Int32))) (lv' := [(2, .int (x2 + (1 : Int32))), (0, .ref (ad j0)), (1, .ref (ad j1))]) hx hb dX4_becomeAs_63 hl (k := 2) rfl rfl (by decide) rfl (fun ls hl => ?_)
        refine lv_goto (tgt := 34) hx hb dX4_becomeAs_66 (by decide) ?_
        exact ih _ _ _ _ hP hD hS _ (lv_sub hl [1, 2, 0] rfl) h
def b_X4_becomeAs_32 (N : Nat) (j0 : Nat) (j1 : Nat) (M : Mem) : Option (Mem) := b_X4_becomeAs_34 N j0 j1 N (0 : Int32) M
set_option maxHeartbeats 4000000 in
set_option maxRecDepth 100000 in
theorem w_X4_becomeAs_32 (C : CX p s m args meth c cX4_becomeAs 3 none RX4 D cy ad zz 0 82 A) {N : Nat} {M : Mem} {j0 : Nat} (hk_j0 : kd j0 = 4) {j1 : Nat} (hk_j1 : kd j1 = 4) {M' : Mem} {H : Heap} {locs : List Loc} (hP : va_P D vwCl (pool cy ad 0 82 M) H) (hD : va_D A (pool cy ad 0 82 M)) (hS : va_S A s.heap H locs) {ls : Array Slot} (hl : lv_has ls 3 [(0, .ref (ad j0)), (1, .ref (ad j1))]) (h : b_X4_becomeAs_32 N j0 j1 M = some M') : W p l e ({ frames := 2, cells := 0, slots := 0, locals := 81 } : Room) s m args below meth c H locs 0 0 (MQ below (va_Qv (fun (_ : Unit) => True) (fun _ t => PA D cy ad 0 82 A M' t) A) args s 0 0 A) (F0 m 32 ls []) := by
  obtain ⟨hx, hb, hml, hown, hts, hr, hlk, hK, hN, hA, hX⟩ := id C
  unfold b_X4_becomeAs_32 at h
  refine lv_iconst (v := 0) hx hb dX4_becomeAs_32 (by decide) ?_
  refine lv_istore_n (lv' := [(2, .int (0 : Int32)), (0, .ref (ad j0)), (1, .ref (ad j1))]) hx hb dX4_becomeAs_33 rfl hl (by decide) rfl (fun ls hl => ?_)
  exact w_X4_becomeAs_34 C hk_j0 hk_j1 N _ _ _ _ hP hD hS _ (lv_sub hl [1, 2, 0] rfl) h
def b_X4_becomeAs_24 (N : Nat) (j0 : Nat) (j1 : Nat) (M : Mem) : Option (Mem) := b_X4_becomeAs_32 N j0 j1 (sFI M j0 3 (FI M j1 3))
set_option maxHeartbeats 4000000 in
set_option maxRecDepth 100000 in
theorem w_X4_becomeAs_24 (C : CX p s m args meth c cX4_becomeAs 3 none RX4 D cy ad zz 0 82 A) {N : Nat} {M : Mem} {j0 : Nat} (hk_j0 : kd j0 = 4) {j1 : Nat} (hk_j1 : kd j1 = 4) {M' : Mem} {H : Heap} {locs : List Loc} (hP : va_P D vwCl (pool cy ad 0 82 M) H) (hD : va_D A (pool cy ad 0 82 M)) (hS : va_S A s.heap H locs) {ls : Array Slot} (hl : lv_has ls 3 [(0, .ref (ad j0)), (1, .ref (ad j1))]) (h : b_X4_becomeAs_24 N j0 j1 M = some M') : W p l e ({ frames := 2, cells := 0, slots := 0, locals := 81 } : Room) s m args below meth c H locs 0 0 (MQ below (va_Qv (fun (_ : Unit) => True) (fun _ t => PA D cy ad 0 82 A M' t) A) args s 0 0 A) (F0 m 24 ls []) := by
  obtain ⟨hx, hb, hml, hown, hts, hr, hlk, hK, hN, hA, hX⟩ := id C
  unfold b_X4_becomeAs_24 at h
  refine lv_aload_n hx hb dX4_becomeAs_24 rfl (lv_at hl 0 rfl) ?_
  refine lv_aload_n hx hb dX4_becomeAs_25 rfl (lv_at hl 1 rfl) ?_
  refine gf_4_3 C hP (p_4 hk_j1) hk_j1 wd_148 dX4_becomeAs_26 ?_
  refine pf_4_3 C hP hD hS (p_4 hk_j0) hk_j0 wd_148 dX4_becomeAs_29 (fun H locs hP hD hS => ?_)
  exact w_X4_becomeAs_32 C hk_j0 hk_j1 hP hD hS hl h
def b_X4_becomeAs_16 (N : Nat) (j0 : Nat) (j1 : Nat) (M : Mem) : Option (Mem) := b_X4_becomeAs_24 N j0 j1 (sFI M j0 2 (FI M j1 2))
set_option maxHeartbeats 4000000 in
set_option maxRecDepth 100000 in
theorem w_X4_becomeAs_16 (C : CX p s m args meth c cX4_becomeAs 3 none RX4 D cy ad zz 0 82 A) {N : Nat} {M : Mem} {j0 : Nat} (hk_j0 : kd j0 = 4) {j1 : Nat} (hk_j1 : kd j1 = 4) {M' : Mem} {H : Heap} {locs : List Loc} (hP : va_P D vwCl (pool cy ad 0 82 M) H) (hD : va_D A (pool cy ad 0 82 M)) (hS : va_S A s.heap H locs) {ls : Array Slot} (hl : lv_has ls 3 [(0, .ref (ad j0)), (1, .ref (ad j1))]) (h : b_X4_becomeAs_16 N j0 j1 M = some M') : W p l e ({ frames := 2, cells := 0, slots := 0, locals := 81 } : Room) s m args below meth c H locs 0 0 (MQ below (va_Qv (fun (_ : Unit) => True) (fun _ t => PA D cy ad 0 82 A M' t) A) args s 0 0 A) (F0 m 16 ls []) := by
  obtain ⟨hx, hb, hml, hown, hts, hr, hlk, hK, hN, hA, hX⟩ := id C
  unfold b_X4_becomeAs_16 at h
  refine lv_aload_n hx hb dX4_becomeAs_16 rfl (lv_at hl 0 rfl) ?_
  refine lv_aload_n hx hb dX4_becomeAs_17 rfl (lv_at hl 1 rfl) ?_
  refine gf_4_2 C hP (p_4 hk_j1) hk_j1 wd_146 dX4_becomeAs_18 ?_
  refine pf_4_2 C hP hD hS (p_4 hk_j0) hk_j0 wd_146 dX4_becomeAs_21 (fun H locs hP hD hS => ?_)
  exact w_X4_becomeAs_24 C hk_j0 hk_j1 hP hD hS hl h
def b_X4_becomeAs_8 (N : Nat) (j0 : Nat) (j1 : Nat) (M : Mem) : Option (Mem) := b_X4_becomeAs_16 N j0 j1 (sFI M j0 1 (FI M j1 1))
set_option maxHeartbeats 4000000 in
set_option maxRecDepth 100000 in
theorem w_X4_becomeAs_8 (C : CX p s m args meth c cX4_becomeAs 3 none RX4 D cy ad zz 0 82 A) {N : Nat} {M : Mem} {j0 : Nat} (hk_j0 : kd j0 = 4) {j1 : Nat} (hk_j1 : kd j1 = 4) {M' : Mem} {H : Heap} {locs : List Loc} (hP : va_P D vwCl (pool cy ad 0 82 M) H) (hD : va_D A (pool cy ad 0 82 M)) (hS : va_S A s.heap H locs) {ls : Array Slot} (hl : lv_has ls 3 [(0, .ref (ad j0)), (1, .ref (ad j1))]) (h : b_X4_becomeAs_8 N j0 j1 M = some M') : W p l e ({ frames := 2, cells := 0, slots := 0, locals := 81 } : Room) s m args below meth c H locs 0 0 (MQ below (va_Qv (fun (_ : Unit) => True) (fun _ t => PA D cy ad 0 82 A M' t) A) args s 0 0 A) (F0 m 8 ls []) := by
  obtain ⟨hx, hb, hml, hown, hts, hr, hlk, hK, hN, hA, hX⟩ := id C
  unfold b_X4_becomeAs_8 at h
  refine lv_aload_n hx hb dX4_becomeAs_8 rfl (lv_at hl 0 rfl) ?_
  refine lv_aload_n hx hb dX4_becomeAs_9 rfl (lv_at hl 1 rfl) ?_
  refine gf_4_1 C hP (p_4 hk_j1) hk_j1 wd_144 dX4_becomeAs_10 ?_
  refine pf_4_1 C hP hD hS (p_4 hk_j0) hk_j0 wd_144 dX4_becomeAs_13 (fun H locs hP hD hS => ?_)
  exact w_X4_becomeAs_16 C hk_j0 hk_j1 hP hD hS hl h
def b_X4_becomeAs_0 (N : Nat) (j0 : Nat) (j1 : Nat) (M : Mem) : Option (Mem) := b_X4_becomeAs_8 N j0 j1 (sFJ M j0 0 (FJ M j1 0))
set_option maxHeartbeats 4000000 in
set_option maxRecDepth 100000 in
theorem w_X4_becomeAs_0 (C : CX p s m args meth c cX4_becomeAs 3 none RX4 D cy ad zz 0 82 A) {N : Nat} {M : Mem} {j0 : Nat} (hk_j0 : kd j0 = 4) {j1 : Nat} (hk_j1 : kd j1 = 4) {M' : Mem} {H : Heap} {locs : List Loc} (hP : va_P D vwCl (pool cy ad 0 82 M) H) (hD : va_D A (pool cy ad 0 82 M)) (hS : va_S A s.heap H locs) {ls : Array Slot} (hl : lv_has ls 3 [(0, .ref (ad j0)), (1, .ref (ad j1))]) (h : b_X4_becomeAs_0 N j0 j1 M = some M') : W p l e ({ frames := 2, cells := 0, slots := 0, locals := 81 } : Room) s m args below meth c H locs 0 0 (MQ below (va_Qv (fun (_ : Unit) => True) (fun _ t => PA D cy ad 0 82 A M' t) A) args s 0 0 A) (F0 m 0 ls []) := by
  obtain ⟨hx, hb, hml, hown, hts, hr, hlk, hK, hN, hA, hX⟩ := id C
  unfold b_X4_becomeAs_0 at h
  refine lv_aload_n hx hb dX4_becomeAs_0 rfl (lv_at hl 0 rfl) ?_
  refine lv_aload_n hx hb dX4_becomeAs_1 rfl (lv_at hl 1 rfl) ?_
  refine gf_4_0 C hP (p_4 hk_j1) hk_j1 wd_142 dX4_becomeAs_2 ?_
  refine pf_4_0 C hP hD hS (p_4 hk_j0) hk_j0 wd_142 dX4_becomeAs_5 (fun H locs hP hD hS => ?_)
  exact w_X4_becomeAs_8 C hk_j0 hk_j1 hP hD hS hl h
def f_X4_becomeAs (N : Nat) (j0 : Nat) (j1 : Nat) (M : Mem) : Option (Mem) := b_X4_becomeAs_0 N j0 j1 M
theorem c_X4_becomeAs {l : Launch} {D : va_G} {cy : Nat → ClassId} {ad : Nat → Nat} {zz : (Nat → Nat) × (Nat → Nat)} {N : Nat} {j0 : Nat} (hk_j0 : kd j0 = 4) {j1 : Nat} (hk_j1 : kd j1 = 4) {M : Mem} {M' : Mem} (h : f_X4_becomeAs N j0 j1 M = some M') : CTv l D cy ad zz 0 82 yX4_becomeAs (.code yX4_becomeAs cX4_becomeAs 3 none :: tb) ({ frames := 2, cells := 0, slots := 0, locals := 81 } : Room) [.ref (ad j0), .ref (ad j1)] M M' := by
  intro sz
  refine CX.of (by decide +kernel) (fun p e s m args below meth c H ls C hP hD hS hl => ?_) (Nat.le_of_ble_eq_true rfl)
  exact w_X4_becomeAs_0 C hk_j0 hk_j1 hP hD hS hl h
theorem ev_X4_becomeAs : yX4_becomeAs.cls = RX4 ∧ yX4_becomeAs.cls ≠ "java/lang/invoke/MethodHandle" ∧ yX4_becomeAs.cls ≠ "java/lang/invoke/VarHandle" ∧ (parseMethodDescriptor yX4_becomeAs.desc).map (fun d => d.parameters.length) = some 1 := by decide +kernel
def b_X4_numbered_27 (M : Mem) (j0 : Nat) (x1 : Int32) : Option (Option Nat) := some none
set_option maxHeartbeats 4000000 in
set_option maxRecDepth 100000 in
theorem w_X4_numbered_27 (C : CX p s m args meth c cX4_numbered 2 (some (.object "BedsocksKeepRoads$Sleeper")) RX4 D cy ad zz 0 82 A) {M : Mem} {j0 : Nat} (hk_j0 : kd j0 = 4) {x1 : Int32} {rr : Option Nat} {H : Heap} {locs : List Loc} (hP : va_P D vwCl (pool cy ad 0 82 M) H) (hD : va_D A (pool cy ad 0 82 M)) (hS : va_S A s.heap H locs) {ls : Array Slot} (hl : lv_has ls 2 []) (h : b_X4_numbered_27 M j0 x1 = some rr) : W p l e ({ frames := 0, cells := 0, slots := 0, locals := 0 } : Room) s m args below meth c H locs 0 0 (MQ below (va_Qq (fun (x : Option Nat) (_ : Unit) => x = rr.map ad) (fun _ t => PA D cy ad 0 82 A M t) A) args s 0 0 A) (F0 m 27 ls []) := by
  obtain ⟨hx, hb, hml, hown, hts, hr, hlk, hK, hN, hA, hX⟩ := id C
  unfold b_X4_numbered_27 at h
  refine lv_null hx hb dX4_numbered_27 ?_
  exact rt_q (r := none) C hP hD hS dX4_numbered_28 ⟨Option.some.inj h, rfl⟩
def b_X4_numbered_0 (M : Mem) (j0 : Nat) (x1 : Int32) : Option (Option Nat) := (if x1 < 0 then b_X4_numbered_27 M j0 x1 else (if (FI M j0 3) ≤ x1 then b_X4_numbered_27 M j0 x1 else (if (6 : Int32) ≤ x1 then b_X4_numbered_27 M j0 x1 else gd (inb x1 (len (j0 + 41))) (some (some (AR (j0 + 41) x1.toNatClampNeg))))))
set_option maxHeartbeats 4000000 in
set_option maxRecDepth 100000 in
theorem w_X4_numbered_0 (C : CX p s m args meth c cX4_numbered 2 (some (.object "BedsocksKeepRoads$Sleeper")) RX4 D cy ad zz 0 82 A) {M : Mem} {j0 : Nat} (hk_j0 : kd j0 = 4) {x1 : Int32} {rr : Option Nat} {H : Heap} {locs : List Loc} (hP : va_P D vwCl (pool cy ad 0 82 M) H) (hD : va_D A (pool cy ad 0 82 M)) (hS : va_S A s.heap H locs) {ls : Array Slot} (hl : lv_has ls 2 [(0, .ref (ad j0)), (1, .int x1)]) (h : b_X4_numbered_0 M j0 x1 = some rr) : W p l e ({ frames := 0, cells := 0, slots := 0, locals := 0 } : Room) s m args below meth c H locs 0 0 (MQ below (va_Qq (fun (x : Option Nat) (_ : Unit) => x = rr.map ad) (fun _ t => PA D cy ad 0 82 A M t) A) args s 0 0 A) (F0 m 0 ls []) := by
  obtain ⟨hx, hb, hml, hown, hts, hr, hlk, hK, hN, hA, hX⟩ := id C
  unfold b_X4_numbered_0 at h
  refine lv_iload_n hx hb dX4_numbered_0 rfl (lv_at hl 1 rfl) ?_
  refine lv_if_lt (tgt := 27) hx hb dX4_numbered_1 (by decide) (fun c1 => ?_) (fun c1 => ?_)
  · replace h := it_t c1 h
    exact w_X4_numbered_27 C hk_j0 hP hD hS (lv_sub hl [] rfl) h
  · replace h := it_f c1 h
    refine lv_iload_n hx hb dX4_numbered_4 rfl (lv_at hl 1 rfl) ?_
    refine lv_aload_n hx hb dX4_numbered_5 rfl (lv_at hl 0 rfl) ?_
    refine gf_4_3 C hP (p_4 hk_j0) hk_j0 wd_148 dX4_numbered_6 ?_
    refine lv_icmp_ge (tgt := 27) hx hb dX4_numbered_9 (by decide) (fun c9 => ?_) (fun c9 => ?_)
    · replace h := it_t c9 h
      exact w_X4_numbered_27 C hk_j0 hP hD hS (lv_sub hl [] rfl) h
    · replace h := it_f c9 h
      refine lv_iload_n hx hb dX4_numbered_12 rfl (lv_at hl 1 rfl) ?_
      refine lv_bipush (v := 6) hx hb dX4_numbered_13 (by decide) ?_
      refine lv_icmp_ge (tgt := 27) hx hb dX4_numbered_15 (by decide) (fun c15 => ?_) (fun c15 => ?_)
      · replace h := it_t c15 h
        exact w_X4_numbered_27 C hk_j0 hP hD hS (lv_sub hl [] rfl) h
      · replace h := it_f c15 h
        refine lv_aload_n hx hb dX4_numbered_18 rfl (lv_at hl 0 rfl) ?_
        refine gf_4_4 C hP (p_4 hk_j0) hk_j0 wd_150 dX4_numbered_19 ?_
        refine lv_iload_n hx hb dX4_numbered_22 rfl (lv_at hl 1 rfl) ?_
        obtain ⟨gi1, h⟩ := gd_of h
        refine aa_10 C hP (p_4_4 hk_j0) (k_4_4 hk_j0) gi1 dX4_numbered_23 ?_
        refine lv_goto (tgt := 28) hx hb dX4_numbered_24 (by decide) ?_
        exact rt_q (r := (some (AR (j0 + 41) x1.toNatClampNeg))) C hP hD hS dX4_numbered_28 ⟨Option.some.inj h, rfl⟩
def f_X4_numbered (j0 : Nat) (x1 : Int32) (M : Mem) : Option (Option Nat) := b_X4_numbered_0 M j0 x1
theorem c_X4_numbered {l : Launch} {D : va_G} {cy : Nat → ClassId} {ad : Nat → Nat} {zz : (Nat → Nat) × (Nat → Nat)} {j0 : Nat} (hk_j0 : kd j0 = 4) {x1 : Int32} {M : Mem} {rr : Option Nat} (h : f_X4_numbered j0 x1 M = some rr) : CTq l D cy ad zz 0 82 yX4_numbered (.code yX4_numbered cX4_numbered 2 (some (.object "BedsocksKeepRoads$Sleeper")) :: tb) ({ frames := 0, cells := 0, slots := 0, locals := 0 } : Room) [.ref (ad j0), .int x1] M rr M := by
  intro sz
  refine CX.of (by decide +kernel) (fun p e s m args below meth c H ls C hP hD hS hl => ?_) (Nat.le_of_ble_eq_true rfl)
  exact w_X4_numbered_0 C hk_j0 hP hD hS hl h
theorem ev_X4_numbered : yX4_numbered.cls = RX4 ∧ yX4_numbered.cls ≠ "java/lang/invoke/MethodHandle" ∧ yX4_numbered.cls ≠ "java/lang/invoke/VarHandle" ∧ (parseMethodDescriptor yX4_numbered.desc).map (fun d => d.parameters.length) = some 1 := by decide +kernel
def b_X4_add_43 (j0 : Nat) (x1 : Int32) (x2 : Int32) (M : Mem) : Option (Int32 × Mem) := some (((FI M j0 3) - (1 : Int32)), M)
set_option maxHeartbeats 4000000 in
set_option maxRecDepth 100000 in
theorem w_X4_add_43 (C : CX p s m args meth c cX4_add 3 (some .int) RX4 D cy ad zz 0 82 A) {M : Mem} {j0 : Nat} (hk_j0 : kd j0 = 4) {x1 : Int32} {x2 : Int32} {rr : Int32} {M' : Mem} {H : Heap} {locs : List Loc} (hP : va_P D vwCl (pool cy ad 0 82 M) H) (hD : va_D A (pool cy ad 0 82 M)) (hS : va_S A s.heap H locs) {ls : Array Slot} (hl : lv_has ls 3 [(0, .ref (ad j0))]) (h : b_X4_add_43 j0 x1 x2 M = some (rr, M')) : W p l e ({ frames := 1, cells := 0, slots := 0, locals := 22 } : Room) s m args below meth c H locs 0 0 (MQ below (va_Qi (fun (x : Int32) (_ : Unit) => x = rr) (fun _ t => PA D cy ad 0 82 A M' t) A) args s 0 0 A) (F0 m 43 ls []) := by
  obtain ⟨hx, hb, hml, hown, hts, hr, hlk, hK, hN, hA, hX⟩ := id C
  unfold b_X4_add_43 at h
  refine lv_aload_n hx hb dX4_add_43 rfl (lv_at hl 0 rfl) ?_
  refine gf_4_3 C hP (p_4 hk_j0) hk_j0 wd_148 dX4_add_44 ?_
  refine lv_iconst (v := 1) hx hb dX4_add_47 (by decide) ?_
  refine lv_isub hx hb dX4_add_48 ?_
  exact rt_i (r := ((FI M j0 3) - (1 : Int32))) C hP hD hS dX4_add_49 (rw_end h)
def b_X4_add_0 (j0 : Nat) (x1 : Int32) (x2 : Int32) (M : Mem) : Option (Int32 × Mem) := (if (FI M j0 3) < 0 then some ((-4 : Int32), M) else (if (FI M j0 3) < (6 : Int32) then gd (inb (FI M j0 3) (len (j0 + 41))) (gd (isK (AR (j0 + 41) (FI M j0 3).toNatClampNeg) 2) ((f_X2_arrive (AR (j0 + 41) (FI M j0 3).toNatClampNeg) x1 x2 M).bind fun M30 => b_X4_add_43 j0 x1 x2 (sFI M30 j0 3 ((FI M30 j0 3) + (1 : Int32))))) else some ((-4 : Int32), M)))
set_option maxHeartbeats 4000000 in
set_option maxRecDepth 100000 in
theorem w_X4_add_0 (C : CX p s m args meth c cX4_add 3 (some .int) RX4 D cy ad zz 0 82 A) {M : Mem} {j0 : Nat} (hk_j0 : kd j0 = 4) {x1 : Int32} {x2 : Int32} {rr : Int32} {M' : Mem} {H : Heap} {locs : List Loc} (hP : va_P D vwCl (pool cy ad 0 82 M) H) (hD : va_D A (pool cy ad 0 82 M)) (hS : va_S A s.heap H locs) {ls : Array Slot} (hl : lv_has ls 3 [(0, .ref (ad j0)), (1, .int x1), (2, .int x2)]) (h : b_X4_add_0 j0 x1 x2 M = some (rr, M')) : W p l e ({ frames := 1, cells := 0, slots := 0, locals := 22 } : Room) s m args below meth c H locs 0 0 (MQ below (va_Qi (fun (x : Int32) (_ : Unit) => x = rr) (fun _ t => PA D cy ad 0 82 A M' t) A) args s 0 0 A) (F0 m 0 ls []) := by
  obtain ⟨hx, hb, hml, hown, hts, hr, hlk, hK, hN, hA, hX⟩ := id C
  unfold b_X4_add_0 at h
  refine lv_aload_n hx hb dX4_add_0 rfl (lv_at hl 0 rfl) ?_
  refine gf_4_3 C hP (p_4 hk_j0) hk_j0 wd_148 dX4_add_1 ?_
  refine lv_if_lt (tgt := 16) hx hb dX4_add_4 (by decide) (fun c4 => ?_) (fun c4 => ?_)
  · replace h := it_t c4 h
    refine lv_bipush (v := -4) hx hb dX4_add_16 (by decide) ?_
    exact rt_i (r := (-4 : Int32)) C hP hD hS dX4_add_18 (rw_end h)
  · replace h := it_f c4 h
    refine lv_aload_n hx hb dX4_add_7 rfl (lv_at hl 0 rfl) ?_
    refine gf_4_3 C hP (p_4 hk_j0) hk_j0 wd_148 dX4_add_8 ?_
    refine lv_bipush (v := 6) hx hb dX4_add_11 (by decide) ?_
    refine lv_icmp_lt (tgt := 19) hx hb dX4_add_13 (by decide) (fun c13 => ?_) (fun c13 => ?_)
    · replace h := it_t c13 h
      refine lv_aload_n hx hb dX4_add_19 rfl (lv_at hl 0 rfl) ?_
      refine gf_4_4 C hP (p_4 hk_j0) hk_j0 wd_150 dX4_add_20 ?_
      refine lv_aload_n hx hb dX4_add_23 rfl (lv_at hl 0 rfl) ?_
      refine gf_4_3 C hP (p_4 hk_j0) hk_j0 wd_148 dX4_add_24 ?_
      obtain ⟨gi1, h⟩ := gd_of h
      refine aa_10 C hP (p_4_4 hk_j0) (k_4_4 hk_j0) gi1 dX4_add_27 ?_
      refine lv_iload_n hx hb dX4_add_28 rfl (lv_at hl 1 rfl) ?_
      refine lv_iload_n hx hb dX4_add_29 rfl (lv_at hl 2 rfl) ?_
      obtain ⟨gk2, h⟩ := gd_of h
      obtain ⟨M30, g30, h⟩ := bd_of h
      refine call_vV (As := [.int x1, .int x2]) (rest := []) C hP hD hS (c_X2_arrive (isK_of gk2) g30) (p_2 (isK_of gk2)) ⟨2, _, _, ent_2 (isK_of gk2), rfl, rfl⟩ (gV wd_502 wd_503 wd_504 wd_66 wd_505) ev_X2_arrive ⟨rfl, rfl⟩ ⟨Nat.le_of_ble_eq_true rfl, Nat.le_of_ble_eq_true rfl⟩ hl.1 rfl (Nat.le_of_ble_eq_true rfl) dX4_add_30 (fun H locs hP hD hS => ?_)
      refine lv_aload_n hx hb dX4_add_33 rfl (lv_at hl 0 rfl) ?_
      refine lv_dup hx hb dX4_add_34 rfl ?_
      refine gf_4_3 C hP (p_4 hk_j0) hk_j0 wd_148 dX4_add_35 ?_
      refine lv_iconst (v := 1) hx hb dX4_add_38 (by decide) ?_
      refine lv_iadd hx hb dX4_add_39 ?_
      refine pf_4_3 C hP hD hS (p_4 hk_j0) hk_j0 wd_148 dX4_add_40 (fun H locs hP hD hS => ?_)
      exact w_X4_add_43 C hk_j0 hP hD hS (lv_sub hl [0] rfl) h
    · replace h := it_f c13 h
      refine lv_bipush (v := -4) hx hb dX4_add_16 (by decide) ?_
      exact rt_i (r := (-4 : Int32)) C hP hD hS dX4_add_18 (rw_end h)
def f_X4_add (j0 : Nat) (x1 : Int32) (x2 : Int32) (M : Mem) : Option (Int32 × Mem) := b_X4_add_0 j0 x1 x2 M
theorem c_X4_add {l : Launch} {D : va_G} {cy : Nat → ClassId} {ad : Nat → Nat} {zz : (Nat → Nat) × (Nat → Nat)} {j0 : Nat} (hk_j0 : kd j0 = 4) {x1 : Int32} {x2 : Int32} {M : Mem} {rr : Int32} {M' : Mem} (h : f_X4_add j0 x1 x2 M = some (rr, M')) : CTi l D cy ad zz 0 82 yX4_add (.code yX4_add cX4_add 3 (some .int) :: tb) ({ frames := 1, cells := 0, slots := 0, locals := 22 } : Room) [.ref (ad j0), .int x1, .int x2] M rr M' := by
  intro sz
  refine CX.of (by decide +kernel) (fun p e s m args below meth c H ls C hP hD hS hl => ?_) (Nat.le_of_ble_eq_true rfl)
  exact w_X4_add_0 C hk_j0 hP hD hS hl h
theorem ev_X4_add : yX4_add.cls = RX4 ∧ yX4_add.cls ≠ "java/lang/invoke/MethodHandle" ∧ yX4_add.cls ≠ "java/lang/invoke/VarHandle" ∧ (parseMethodDescriptor yX4_add.desc).map (fun d => d.parameters.length) = some 2 := by decide +kernel
def b_X4_pass_45 (N : Nat) (j0 : Nat) (j1 : Nat) (x2 : Int32) (M : Mem) : Option (Int32 × Mem) := some (x2, (sFI M j0 1 ((FI M j0 1) + (1 : Int32))))
set_option maxHeartbeats 4000000 in
set_option maxRecDepth 100000 in
theorem w_X4_pass_45 (C : CX p s m args meth c cX4_pass 4 (some .int) RX4 D cy ad zz 0 82 A) {N : Nat} {M : Mem} {j0 : Nat} (hk_j0 : kd j0 = 4) {j1 : Nat} (hk_j1 : kd j1 = 3) {rr : Int32} {M' : Mem} {x2 : Int32} {H : Heap} {locs : List Loc} (hP : va_P D vwCl (pool cy ad 0 82 M) H) (hD : va_D A (pool cy ad 0 82 M)) (hS : va_S A s.heap H locs) {ls : Array Slot} (hl : lv_has ls 4 [(0, .ref (ad j0)), (2, .int x2)]) (h : b_X4_pass_45 N j0 j1 x2 M = some (rr, M')) : W p l e ({ frames := 5, cells := 0, slots := 0, locals := 120 } : Room) s m args below meth c H locs 0 0 (MQ below (va_Qi (fun (x : Int32) (_ : Unit) => x = rr) (fun _ t => PA D cy ad 0 82 A M' t) A) args s 0 0 A) (F0 m 45 ls []) := by
  obtain ⟨hx, hb, hml, hown, hts, hr, hlk, hK, hN, hA, hX⟩ := id C
  unfold b_X4_pass_45 at h
  refine lv_aload_n hx hb dX4_pass_45 rfl (lv_at hl 0 rfl) ?_
  refine lv_dup hx hb dX4_pass_46 rfl ?_
  refine gf_4_1 C hP (p_4 hk_j0) hk_j0 wd_144 dX4_pass_47 ?_
  refine lv_iconst (v := 1) hx hb dX4_pass_50 (by decide) ?_
  refine lv_iadd hx hb dX4_pass_51 ?_
  refine pf_4_1 C hP hD hS (p_4 hk_j0) hk_j0 wd_144 dX4_pass_52 (fun H locs hP hD hS => ?_)
  refine lv_iload_n hx hb dX4_pass_55 rfl (lv_at hl 1 rfl) ?_
  exact rt_i (r := x2) C hP hD hS dX4_pass_56 (rw_end h)
def b_X4_pass_4 (N : Nat) (j0 : Nat) (j1 : Nat) : Nat → Int32 → Int32 → Mem → Option (Int32 × Mem)
  | 0, _, _, _ => none
  | fu + 1, x2, x3, M => (if (FI M j0 3) ≤ x3 then b_X4_pass_45 N j0 j1 x2 M else (if (6 : Int32) ≤ x3 then b_X4_pass_45 N j0 j1 x2 M else gd (inb x3 (len (j0 + 41))) (gd (isK (AR (j0 + 41) x3.toNatClampNeg) 2) (bd2 (f_X2_walk N (AR (j0 + 41) x3.toNatClampNeg) j1 (FI M j0 1) (FJ M j0 0) M) fun r34 M34 => b_X4_pass_4 N j0 j1 fu (x2 + r34) (x3 + (1 : Int32)) M34))))
set_option maxHeartbeats 4000000 in
set_option maxRecDepth 100000 in
theorem w_X4_pass_4 (C : CX p s m args meth c cX4_pass 4 (some .int) RX4 D cy ad zz 0 82 A) {N : Nat} {j0 : Nat} (hk_j0 : kd j0 = 4) {j1 : Nat} (hk_j1 : kd j1 = 3) {rr : Int32} {M' : Mem}  : ∀ (fu : Nat), ∀ (x2 : Int32), ∀ (x3 : Int32), ∀ (M : Mem), ∀ (H : Heap) (locs : List Loc), va_P D vwCl (pool cy ad 0 82 M) H → va_D A (pool cy ad 0 82 M) → va_S A s.heap H locs → ∀ (ls : Array Slot), lv_has ls 4 [(0, .ref (ad j0)), (1, .ref (ad j1)), (2, .int x2), (3, .int x3)] → b_X4_pass_4 N j0 j1 fu x2 x3 M = some (rr, M') → W p l e ({ frames := 5, cells := 0, slots := 0, locals := 120 } : Room) s m args below meth c H locs 0 0 (MQ below (va_Qi (fun (x : Int32) (_ : Unit) => x = rr) (fun _ t => PA D cy ad 0 82 A M' t) A) args s 0 0 A) (F0 m 4 ls []) := by
  obtain ⟨hx, hb, hml, hown, hts, hr, hlk, hK, hN, hA, hX⟩ := id C
  intro fu
  induction fu with
  | zero =>
    intro x2 x3 M H locs hP hD hS ls hl h
    exact no_some (show none = some _ from h)
  | succ fu ih =>
    intro x2 x3 M H locs hP hD hS ls hl h
    rw [b_X4_pass_4] at h
    refine lv_iload_n hx hb dX4_pass_4 rfl (lv_at hl 3 rfl) ?_
    refine lv_aload_n hx hb dX4_pass_5 rfl (lv_at hl 0 rfl) ?_
    refine gf_4_3 C hP (p_4 hk_j0) hk_j0 wd_148 dX4_pass_6 ?_
    refine lv_icmp_ge (tgt := 45) hx hb dX4_pass_9 (by decide) (fun c9 => ?_) (fun c9 => ?_)
    · replace h := it_t c9 h
      exact w_X4_pass_45 C hk_j0 hk_j1 hP hD hS (lv_sub hl [0, 2] rfl) h
    · replace h := it_f c9 h
      refine lv_iload_n hx hb dX4_pass_12 rfl (lv_at hl 3 rfl) ?_
      refine lv_bipush (v := 6) hx hb dX4_pass_13 (by decide) ?_
      refine lv_icmp_ge (tgt := 45) hx hb dX4_pass_15 (by decide) (fun c15 => ?_) (fun c15 => ?_)
      · replace h := it_t c15 h
        exact w_X4_pass_45 C hk_j0 hk_j1 hP hD hS (lv_sub hl [0, 2] rfl) h
      · replace h := it_f c15 h
        refine lv_iload_n hx hb dX4_pass_18 rfl (lv_at hl 2 rfl) ?_
        refine lv_aload_n hx hb dX4_pass_19 rfl (lv_at hl 0 rfl) ?_
        refine gf_4_4 C hP (p_4 hk_j0) hk_j0 wd_150 dX4_pass_20 ?_
        refine lv_iload_n hx hb dX4_pass_23 rfl (lv_at hl 3 rfl) ?_
        obtain ⟨gi1, h⟩ := gd_of h
        refine aa_10 C hP (p_4_4 hk_j0) (k_4_4 hk_j0) gi1 dX4_pass_24 ?_
        refine lv_aload_n hx hb dX4_pass_25 rfl (lv_at hl 1 rfl) ?_
        refine lv_aload_n hx hb dX4_pass_26 rfl (lv_at hl 0 rfl) ?_
        refine gf_4_1 C hP (p_4 hk_j0) hk_j0 wd_144 dX4_pass_27 ?_
        refine lv_aload_n hx hb dX4_pass_30 rfl (lv_at hl 0 rfl) ?_
        refine gf_4_0 C hP (p_4 hk_j0) hk_j0 wd_142 dX4_pass_31 ?_
        obtain ⟨gk2, h⟩ := gd_of h
        obtain ⟨r34, M34, g34, h⟩ := bd2_of h
        refine call_iV (As := [.ref (ad j1), .int (FI M j0 1), .long (FJ M j0 0)]) (rest := [.int x2]) C hP hD hS (c_X2_walk (isK_of gk2) hk_j1 g34) (p_2 (isK_of gk2)) ⟨2, _, _, ent_2 (isK_of gk2), rfl, rfl⟩ (gV wd_593 wd_594 wd_595 wd_66 wd_596) ev_X2_walk ⟨rfl, rfl⟩ ⟨Nat.le_of_ble_eq_true rfl, Nat.le_of_ble_eq_true rfl⟩ hl.1 rfl (Nat.le_of_ble_eq_true rfl) dX4_pass_34 (fun H locs hP hD hS => ?_)
        refine lv_iadd hx hb dX4_pass_37 ?_
        refine lv_istore_n (lv' := [(2, .int (x2 + r34)), (0, .ref (ad j0)), (1, .ref (ad j1)), (3, .int x3)]) hx hb dX4_pass_38 rfl hl (by decide) rfl (fun ls hl => ?_)
        refine lv_iinc (v := (x3 + (1 : Int32))) (lv' := [(3, .int (x3 + (1 : Int32))), (2, .int (x2 + r34)), (0, .ref (ad j0)), (1, .ref (ad j1))]) hx hb dX4_pass_39 hl (k := 3) rfl rfl (by decide) rfl (fun ls hl => ?_)
        refine lv_goto (tgt := 4) hx hb dX4_pass_42 (by decide) ?_
        exact ih _ _ _ _ _ hP hD hS _ (lv_sub hl [2, 3, 1, 0] rfl) h
def b_X4_pass_0 (N : Nat) (j0 : Nat) (j1 : Nat) (M : Mem) : Option (Int32 × Mem) := b_X4_pass_4 N j0 j1 N (0 : Int32) (0 : Int32) M
set_option maxHeartbeats 4000000 in
set_option maxRecDepth 100000 in
theorem w_X4_pass_0 (C : CX p s m args meth c cX4_pass 4 (some .int) RX4 D cy ad zz 0 82 A) {N : Nat} {M : Mem} {j0 : Nat} (hk_j0 : kd j0 = 4) {j1 : Nat} (hk_j1 : kd j1 = 3) {rr : Int32} {M' : Mem} {H : Heap} {locs : List Loc} (hP : va_P D vwCl (pool cy ad 0 82 M) H) (hD : va_D A (pool cy ad 0 82 M)) (hS : va_S A s.heap H locs) {ls : Array Slot} (hl : lv_has ls 4 [(0, .ref (ad j0)), (1, .ref (ad j1))]) (h : b_X4_pass_0 N j0 j1 M = some (rr, M')) : W p l e ({ frames := 5, cells := 0, slots := 0, locals := 120 } : Room) s m args below meth c H locs 0 0 (MQ below (va_Qi (fun (x : Int32) (_ : Unit) => x = rr) (fun _ t => PA D cy ad 0 82 A M' t) A) args s 0 0 A) (F0 m 0 ls []) := by
  obtain ⟨hx, hb, hml, hown, hts, hr, hlk, hK, hN, hA, hX⟩ := id C
  unfold b_X4_pass_0 at h
  refine lv_iconst (v := 0) hx hb dX4_pass_0 (by decide) ?_
  refine lv_istore_n (lv' := [(2, .int (0 : Int32)), (0, .ref (ad j0)), (1, .ref (ad j1))]) hx hb dX4_pass_1 rfl hl (by decide) rfl (fun ls hl => ?_)
  refine lv_iconst (v := 0) hx hb dX4_pass_2 (by decide) ?_
  refine lv_istore_n (lv' := [(3, .int (0 : Int32)), (2, .int (0 : Int32)), (0, .ref (ad j0)), (1, .ref (ad j1))]) hx hb dX4_pass_3 rfl hl (by decide) rfl (fun ls hl => ?_)
  exact w_X4_pass_4 C hk_j0 hk_j1 N _ _ _ _ _ hP hD hS _ (lv_sub hl [2, 3, 1, 0] rfl) h
def f_X4_pass (N : Nat) (j0 : Nat) (j1 : Nat) (M : Mem) : Option (Int32 × Mem) := b_X4_pass_0 N j0 j1 M
theorem c_X4_pass {l : Launch} {D : va_G} {cy : Nat → ClassId} {ad : Nat → Nat} {zz : (Nat → Nat) × (Nat → Nat)} {N : Nat} {j0 : Nat} (hk_j0 : kd j0 = 4) {j1 : Nat} (hk_j1 : kd j1 = 3) {M : Mem} {rr : Int32} {M' : Mem} (h : f_X4_pass N j0 j1 M = some (rr, M')) : CTi l D cy ad zz 0 82 yX4_pass (.code yX4_pass cX4_pass 4 (some .int) :: tb) ({ frames := 5, cells := 0, slots := 0, locals := 120 } : Room) [.ref (ad j0), .ref (ad j1)] M rr M' := by
  intro sz
  refine CX.of (by decide +kernel) (fun p e s m args below meth c H ls C hP hD hS hl => ?_) (Nat.le_of_ble_eq_true rfl)
  exact w_X4_pass_0 C hk_j0 hk_j1 hP hD hS hl h
theorem ev_X4_pass : yX4_pass.cls = RX4 ∧ yX4_pass.cls ≠ "java/lang/invoke/MethodHandle" ∧ yX4_pass.cls ≠ "java/lang/invoke/VarHandle" ∧ (parseMethodDescriptor yX4_pass.desc).map (fun d => d.parameters.length) = some 1 := by decide +kernel
def b_X4_mindsOfAll_4 (N : Nat) (j0 : Nat) (j1 : Nat) : Nat → Int32 → Int32 → Mem → Option (Int32 × Mem)
  | 0, _, _, _ => none
  | fu + 1, x2, x3, M => (if (FI M j0 3) ≤ x3 then some (x2, M) else (if (6 : Int32) ≤ x3 then some (x2, M) else gd (inb x3 (len (j0 + 41))) (gd (isK (AR (j0 + 41) x3.toNatClampNeg) 2) (bd2 (f_X2_mindsBy N (AR (j0 + 41) x3.toNatClampNeg) j1 M) fun r26 M26 => b_X4_mindsOfAll_4 N j0 j1 fu (x2 + r26) (x3 + (1 : Int32)) M26))))
set_option maxHeartbeats 4000000 in
set_option maxRecDepth 100000 in
theorem w_X4_mindsOfAll_4 (C : CX p s m args meth c cX4_mindsOfAll 4 (some .int) RX4 D cy ad zz 0 82 A) {N : Nat} {j0 : Nat} (hk_j0 : kd j0 = 4) {j1 : Nat} (hk_j1 : kd j1 = 3) {rr : Int32} {M' : Mem}  : ∀ (fu : Nat), ∀ (x2 : Int32), ∀ (x3 : Int32), ∀ (M : Mem), ∀ (H : Heap) (locs : List Loc), va_P D vwCl (pool cy ad 0 82 M) H → va_D A (pool cy ad 0 82 M) → va_S A s.heap H locs → ∀ (ls : Array Slot), lv_has ls 4 [(0, .ref (ad j0)), (1, .ref (ad j1)), (2, .int x2), (3, .int x3)] → b_X4_mindsOfAll_4 N j0 j1 fu x2 x3 M = some (rr, M') → W p l e ({ frames := 4, cells := 0, slots := 0, locals := 92 } : Room) s m args below meth c H locs 0 0 (MQ below (va_Qi (fun (x : Int32) (_ : Unit) => x = rr) (fun _ t => PA D cy ad 0 82 A M' t) A) args s 0 0 A) (F0 m 4 ls []) := by
  obtain ⟨hx, hb, hml, hown, hts, hr, hlk, hK, hN, hA, hX⟩ := id C
  intro fu
  induction fu with
  | zero =>
    intro x2 x3 M H locs hP hD hS ls hl h
    exact no_some (show none = some _ from h)
  | succ fu ih =>
    intro x2 x3 M H locs hP hD hS ls hl h
    rw [b_X4_mindsOfAll_4] at h
    refine lv_iload_n hx hb dX4_mindsOfAll_4 rfl (lv_at hl 3 rfl) ?_
    refine lv_aload_n hx hb dX4_mindsOfAll_5 rfl (lv_at hl 0 rfl) ?_
    refine gf_4_3 C hP (p_4 hk_j0) hk_j0 wd_148 dX4_mindsOfAll_6 ?_
    refine lv_icmp_ge (tgt := 37) hx hb dX4_mindsOfAll_9 (by decide) (fun c9 => ?_) (fun c9 => ?_)
    · replace h := it_t c9 h
      refine lv_iload_n hx hb dX4_mindsOfAll_37 rfl (lv_at hl 2 rfl) ?_
      exact rt_i (r := x2) C hP hD hS dX4_mindsOfAll_38 (rw_end h)
    · replace h := it_f c9 h
      refine lv_iload_n hx hb dX4_mindsOfAll_12 rfl (lv_at hl 3 rfl) ?_
      refine lv_bipush (v := 6) hx hb dX4_mindsOfAll_13 (by decide) ?_
      refine lv_icmp_ge (tgt := 37) hx hb dX4_mindsOfAll_15 (by decide) (fun c15 => ?_) (fun c15 => ?_)
      · replace h := it_t c15 h
        refine lv_iload_n hx hb dX4_mindsOfAll_37 rfl (lv_at hl 2 rfl) ?_
        exact rt_i (r := x2) C hP hD hS dX4_mindsOfAll_38 (rw_end h)
      · replace h := it_f c15 h
        refine lv_iload_n hx hb dX4_mindsOfAll_18 rfl (lv_at hl 2 rfl) ?_
        refine lv_aload_n hx hb dX4_mindsOfAll_19 rfl (lv_at hl 0 rfl) ?_
        refine gf_4_4 C hP (p_4 hk_j0) hk_j0 wd_150 dX4_mindsOfAll_20 ?_
        refine lv_iload_n hx hb dX4_mindsOfAll_23 rfl (lv_at hl 3 rfl) ?_
        obtain ⟨gi1, h⟩ := gd_of h
        refine aa_10 C hP (p_4_4 hk_j0) (k_4_4 hk_j0) gi1 dX4_mindsOfAll_24 ?_
        refine lv_aload_n hx hb dX4_mindsOfAll_25 rfl (lv_at hl 1 rfl) ?_
        obtain ⟨gk2, h⟩ := gd_of h
        obtain ⟨r26, M26, g26, h⟩ := bd2_of h
        refine call_iV (As := [.ref (ad j1)]) (rest := [.int x2]) C hP hD hS (c_X2_mindsBy (isK_of gk2) hk_j1 g26) (p_2 (isK_of gk2)) ⟨2, _, _, ent_2 (isK_of gk2), rfl, rfl⟩ (gV wd_634 wd_537 wd_538 wd_66 wd_539) ev_X2_mindsBy ⟨rfl, rfl⟩ ⟨Nat.le_of_ble_eq_true rfl, Nat.le_of_ble_eq_true rfl⟩ hl.1 rfl (Nat.le_of_ble_eq_true rfl) dX4_mindsOfAll_26 (fun H locs hP hD hS => ?_)
        refine lv_iadd hx hb dX4_mindsOfAll_29 ?_
        refine lv_istore_n (lv' := [(2, .int (x2 + r26)), (0, .ref (ad j0)), (1, .ref (ad j1)), (3, .int x3)]) hx hb dX4_mindsOfAll_30 rfl hl (by decide) rfl (fun ls hl => ?_)
        refine lv_iinc (v := (x3 + (1 : Int32))) (lv' := [(3, .int (x3 + (1 : Int32))), (2, .int (x2 + r26)), (0, .ref (ad j0)), (1, .ref (ad j1))]) hx hb dX4_mindsOfAll_31 hl (k := 3) rfl rfl (by decide) rfl (fun ls hl => ?_)
        refine lv_goto (tgt := 4) hx hb dX4_mindsOfAll_34 (by decide) ?_
        exact ih _ _ _ _ _ hP hD hS _ (lv_sub hl [2, 3, 1, 0] rfl) h
def b_X4_mindsOfAll_0 (N : Nat) (j0 : Nat) (j1 : Nat) (M : Mem) : Option (Int32 × Mem) := b_X4_mindsOfAll_4 N j0 j1 N (0 : Int32) (0 : Int32) M
set_option maxHeartbeats 4000000 in
set_option maxRecDepth 100000 in
theorem w_X4_mindsOfAll_0 (C : CX p s m args meth c cX4_mindsOfAll 4 (some .int) RX4 D cy ad zz 0 82 A) {N : Nat} {M : Mem} {j0 : Nat} (hk_j0 : kd j0 = 4) {j1 : Nat} (hk_j1 : kd j1 = 3) {rr : Int32} {M' : Mem} {H : Heap} {locs : List Loc} (hP : va_P D vwCl (pool cy ad 0 82 M) H) (hD : va_D A (pool cy ad 0 82 M)) (hS : va_S A s.heap H locs) {ls : Array Slot} (hl : lv_has ls 4 [(0, .ref (ad j0)), (1, .ref (ad j1))]) (h : b_X4_mindsOfAll_0 N j0 j1 M = some (rr, M')) : W p l e ({ frames := 4, cells := 0, slots := 0, locals := 92 } : Room) s m args below meth c H locs 0 0 (MQ below (va_Qi (fun (x : Int32) (_ : Unit) => x = rr) (fun _ t => PA D cy ad 0 82 A M' t) A) args s 0 0 A) (F0 m 0 ls []) := by
  obtain ⟨hx, hb, hml, hown, hts, hr, hlk, hK, hN, hA, hX⟩ := id C
  unfold b_X4_mindsOfAll_0 at h
  refine lv_iconst (v := 0) hx hb dX4_mindsOfAll_0 (by decide) ?_
  refine lv_istore_n (lv' := [(2, .int (0 : Int32)), (0, .ref (ad j0)), (1, .ref (ad j1))]) hx hb dX4_mindsOfAll_1 rfl hl (by decide) rfl (fun ls hl => ?_)
  refine lv_iconst (v := 0) hx hb dX4_mindsOfAll_2 (by decide) ?_
  refine lv_istore_n (lv' := [(3, .int (0 : Int32)), (2, .int (0 : Int32)), (0, .ref (ad j0)), (1, .ref (ad j1))]) hx hb dX4_mindsOfAll_3 rfl hl (by decide) rfl (fun ls hl => ?_)
  exact w_X4_mindsOfAll_4 C hk_j0 hk_j1 N _ _ _ _ _ hP hD hS _ (lv_sub hl [2, 3, 1, 0] rfl) h
def f_X4_mindsOfAll (N : Nat) (j0 : Nat) (j1 : Nat) (M : Mem) : Option (Int32 × Mem) := b_X4_mindsOfAll_0 N j0 j1 M
theorem c_X4_mindsOfAll {l : Launch} {D : va_G} {cy : Nat → ClassId} {ad : Nat → Nat} {zz : (Nat → Nat) × (Nat → Nat)} {N : Nat} {j0 : Nat} (hk_j0 : kd j0 = 4) {j1 : Nat} (hk_j1 : kd j1 = 3) {M : Mem} {rr : Int32} {M' : Mem} (h : f_X4_mindsOfAll N j0 j1 M = some (rr, M')) : CTi l D cy ad zz 0 82 yX4_mindsOfAll (.code yX4_mindsOfAll cX4_mindsOfAll 4 (some .int) :: tb) ({ frames := 4, cells := 0, slots := 0, locals := 92 } : Room) [.ref (ad j0), .ref (ad j1)] M rr M' := by
  intro sz
  refine CX.of (by decide +kernel) (fun p e s m args below meth c H ls C hP hD hS hl => ?_) (Nat.le_of_ble_eq_true rfl)
  exact w_X4_mindsOfAll_0 C hk_j0 hk_j1 hP hD hS hl h
theorem ev_X4_mindsOfAll : yX4_mindsOfAll.cls = RX4 ∧ yX4_mindsOfAll.cls ≠ "java/lang/invoke/MethodHandle" ∧ yX4_mindsOfAll.cls ≠ "java/lang/invoke/VarHandle" ∧ (parseMethodDescriptor yX4_mindsOfAll.desc).map (fun d => d.parameters.length) = some 1 := by decide +kernel
def b_X4_twos_49 (N : Nat) (M : Mem) (j0 : Nat) (k4 : Int32 → Int32 → Option (Int32)) (k20 : Int32 → Int32 → Int32 → Option (Int32)) (x1 : Int32) (x2 : Int32) (x3 : Int32) : Option (Int32) := k20 x1 x2 (x3 + (1 : Int32))
set_option maxHeartbeats 4000000 in
set_option maxRecDepth 100000 in
theorem w_X4_twos_49 (C : CX p s m args meth c cX4_twos 4 (some .int) RX4 D cy ad zz 0 82 A) {N : Nat} {M : Mem} {j0 : Nat} (hk_j0 : kd j0 = 4) {k4 : Int32 → Int32 → Option (Int32)} {k20 : Int32 → Int32 → Int32 → Option (Int32)} {rr : Int32} (hk4 : ∀ (x1 : Int32), ∀ (x2 : Int32), ∀ (H : Heap) (locs : List Loc), va_P D vwCl (pool cy ad 0 82 M) H → va_D A (pool cy ad 0 82 M) → va_S A s.heap H locs → ∀ (ls : Array Slot), lv_has ls 4 [(0, .ref (ad j0)), (1, .int x1), (2, .int x2)] → k4 x1 x2 = some rr → W p l e ({ frames := 0, cells := 0, slots := 0, locals := 0 } : Room) s m args below meth c H locs 0 0 (MQ below (va_Qi (fun (x : Int32) (_ : Unit) => x = rr) (fun _ t => PA D cy ad 0 82 A M t) A) args s 0 0 A) (F0 m 4 ls [])) (hk20 : ∀ (x1 : Int32), ∀ (x2 : Int32), ∀ (x3 : Int32), ∀ (H : Heap) (locs : List Loc), va_P D vwCl (pool cy ad 0 82 M) H → va_D A (pool cy ad 0 82 M) → va_S A s.heap H locs → ∀ (ls : Array Slot), lv_has ls 4 [(0, .ref (ad j0)), (1, .int x1), (2, .int x2), (3, .int x3)] → k20 x1 x2 x3 = some rr → W p l e ({ frames := 0, cells := 0, slots := 0, locals := 0 } : Room) s m args below meth c H locs 0 0 (MQ below (va_Qi (fun (x : Int32) (_ : Unit) => x = rr) (fun _ t => PA D cy ad 0 82 A M t) A) args s 0 0 A) (F0 m 20 ls [])) {x1 : Int32} {x2 : Int32} {x3 : Int32} {H : Heap} {locs : List Loc} (hP : va_P D vwCl (pool cy ad 0 82 M) H) (hD : va_D A (pool cy ad 0 82 M)) (hS : va_S A s.heap H locs) {ls : Array Slot} (hl : lv_has ls 4 [(0, .ref (ad j0)), (1, .int x1), (2, .int x2), (3, .int x3)]) (h : b_X4_twos_49 N M j0 k4 k20 x1 x2 x3 = some rr) : W p l e ({ frames := 0, cells := 0, slots := 0, locals := 0 } : Room) s m args below meth c H locs 0 0 (MQ below (va_Qi (fun (x : Int32) (_ : Unit) => x = rr) (fun _ t => PA D cy ad 0 82 A M t) A) args s 0 0 A) (F0 m 49 ls []) := by
  obtain ⟨hx, hb, hml, hown, hts, hr, hlk, hK, hN, hA, hX⟩ := id C
  unfold b_X4_twos_49 at h
  refine lv_iinc (v := (x3 + (1 : Int32))) (lv' := [(3, .int (x3 + (1 : Int32))), (0, .ref (ad j0)), (1, .int x1), (2, .int x2)]) hx hb dX4_twos_49 hl (k := 3) rfl rfl (by decide) rfl (fun ls hl => ?_)
  refine lv_goto (tgt := 20) hx hb dX4_twos_52 (by decide) ?_
  exact hk20 _ _ _ _ _ hP hD hS _ (lv_sub hl [1, 2, 3, 0] rfl) h
def b_X4_twos_20 (N : Nat) (M : Mem) (j0 : Nat) (k4 : Int32 → Int32 → Option (Int32)) : Nat → Int32 → Int32 → Int32 → Option (Int32)
  | 0, _, _, _ => none
  | fu + 1, x1, x2, x3 => (if x2 ≤ x3 then k4 x1 (x2 + (1 : Int32)) else gd (inb x2 (len (j0 + 41))) (gd (isK (AR (j0 + 41) x2.toNatClampNeg) 2) (gd (inb x3 (len (j0 + 41))) (gd (isK (AR (j0 + 41) x3.toNatClampNeg) 2) ((if (FI M (AR (j0 + 41) x2.toNatClampNeg) 2) = (FI M (AR (j0 + 41) x3.toNatClampNeg) 2) then b_X4_twos_49 N M j0 k4 (b_X4_twos_20 N M j0 k4 fu) (x1 + (1 : Int32)) x2 x3 else b_X4_twos_49 N M j0 k4 (b_X4_twos_20 N M j0 k4 fu) x1 x2 x3))))))
set_option maxHeartbeats 4000000 in
set_option maxRecDepth 100000 in
theorem w_X4_twos_20 (C : CX p s m args meth c cX4_twos 4 (some .int) RX4 D cy ad zz 0 82 A) {N : Nat} {M : Mem} {j0 : Nat} (hk_j0 : kd j0 = 4) {k4 : Int32 → Int32 → Option (Int32)} {rr : Int32} (hk4 : ∀ (x1 : Int32), ∀ (x2 : Int32), ∀ (H : Heap) (locs : List Loc), va_P D vwCl (pool cy ad 0 82 M) H → va_D A (pool cy ad 0 82 M) → va_S A s.heap H locs → ∀ (ls : Array Slot), lv_has ls 4 [(0, .ref (ad j0)), (1, .int x1), (2, .int x2)] → k4 x1 x2 = some rr → W p l e ({ frames := 0, cells := 0, slots := 0, locals := 0 } : Room) s m args below meth c H locs 0 0 (MQ below (va_Qi (fun (x : Int32) (_ : Unit) => x = rr) (fun _ t => PA D cy ad 0 82 A M t) A) args s 0 0 A) (F0 m 4 ls []))  : ∀ (fu : Nat), ∀ (x1 : Int32), ∀ (x2 : Int32), ∀ (x3 : Int32), ∀ (H : Heap) (locs : List Loc), va_P D vwCl (pool cy ad 0 82 M) H → va_D A (pool cy ad 0 82 M) → va_S A s.heap H locs → ∀ (ls : Array Slot), lv_has ls 4 [(0, .ref (ad j0)), (1, .int x1), (2, .int x2), (3, .int x3)] → b_X4_twos_20 N M j0 k4 fu x1 x2 x3 = some rr → W p l e ({ frames := 0, cells := 0, slots := 0, locals := 0 } : Room) s m args below meth c H locs 0 0 (MQ below (va_Qi (fun (x : Int32) (_ : Unit) => x = rr) (fun _ t => PA D cy ad 0 82 A M t) A) args s 0 0 A) (F0 m 20 ls []) := by
  obtain ⟨hx, hb, hml, hown, hts, hr, hlk, hK, hN, hA, hX⟩ := id C
  intro fu
  induction fu with
  | zero =>
    intro x1 x2 x3 H locs hP hD hS ls hl h
    exact no_some (show none = some _ from h)
  | succ fu ih =>
    intro x1 x2 x3 H locs hP hD hS ls hl h
    rw [b_X4_twos_20] at h
    refine lv_iload_n hx hb dX4_twos_20 rfl (lv_at hl 3 rfl) ?_
    refine lv_iload_n hx hb dX4_twos_21 rfl (lv_at hl 2 rfl) ?_
    refine lv_icmp_ge (tgt := 55) hx hb dX4_twos_22 (by decide) (fun c22 => ?_) (fun c22 => ?_)
    · replace h := it_t c22 h
      refine lv_iinc (v := (x2 + (1 : Int32))) (lv' := [(2, .int (x2 + (1 : Int32))), (0, .ref (ad j0)), (1, .int x1), (3, .int x3)]) hx hb dX4_twos_55 hl (k := 2) rfl rfl (by decide) rfl (fun ls hl => ?_)
      refine lv_goto (tgt := 4) hx hb dX4_twos_58 (by decide) ?_
      exact hk4 _ _ _ _ hP hD hS _ (lv_sub hl [1, 2, 0] rfl) h
    · replace h := it_f c22 h
      refine lv_aload_n hx hb dX4_twos_25 rfl (lv_at hl 0 rfl) ?_
      refine gf_4_4 C hP (p_4 hk_j0) hk_j0 wd_150 dX4_twos_26 ?_
      refine lv_iload_n hx hb dX4_twos_29 rfl (lv_at hl 2 rfl) ?_
      obtain ⟨gi1, h⟩ := gd_of h
      refine aa_10 C hP (p_4_4 hk_j0) (k_4_4 hk_j0) gi1 dX4_twos_30 ?_
      obtain ⟨gk2, h⟩ := gd_of h
      refine gf_2_2 C hP (p_2 (isK_of gk2)) (isK_of gk2) wd_105 dX4_twos_31 ?_
      refine lv_aload_n hx hb dX4_twos_34 rfl (lv_at hl 0 rfl) ?_
      refine gf_4_4 C hP (p_4 hk_j0) hk_j0 wd_150 dX4_twos_35 ?_
      refine lv_iload_n hx hb dX4_twos_38 rfl (lv_at hl 3 rfl) ?_
      obtain ⟨gi3, h⟩ := gd_of h
      refine aa_10 C hP (p_4_4 hk_j0) (k_4_4 hk_j0) gi3 dX4_twos_39 ?_
      obtain ⟨gk4, h⟩ := gd_of h
      refine gf_2_2 C hP (p_2 (isK_of gk4)) (isK_of gk4) wd_105 dX4_twos_40 ?_
      refine lv_icmp_ne (tgt := 49) hx hb dX4_twos_43 (by decide) (fun c43 => ?_) (fun c43 => ?_)
      · replace h := it_f c43 h
        exact w_X4_twos_49 C hk_j0 hk4 ih hP hD hS hl h
      · replace h := it_t c43 h
        refine lv_iinc (v := (x1 + (1 : Int32))) (lv' := [(1, .int (x1 + (1 : Int32))), (0, .ref (ad j0)), (2, .int x2), (3, .int x3)]) hx hb dX4_twos_46 hl (k := 1) rfl rfl (by decide) rfl (fun ls hl => ?_)
        exact w_X4_twos_49 C hk_j0 hk4 ih hP hD hS (lv_sub hl [1, 0, 2, 3] rfl) h
def b_X4_twos_4 (N : Nat) (M : Mem) (j0 : Nat) : Nat → Int32 → Int32 → Option (Int32)
  | 0, _, _ => none
  | fu + 1, x1, x2 => (if (FI M j0 3) ≤ x2 then some x1 else (if (6 : Int32) ≤ x2 then some x1 else b_X4_twos_20 N M j0 (b_X4_twos_4 N M j0 fu) N x1 x2 (0 : Int32)))
set_option maxHeartbeats 4000000 in
set_option maxRecDepth 100000 in
theorem w_X4_twos_4 (C : CX p s m args meth c cX4_twos 4 (some .int) RX4 D cy ad zz 0 82 A) {N : Nat} {M : Mem} {j0 : Nat} (hk_j0 : kd j0 = 4) {rr : Int32}  : ∀ (fu : Nat), ∀ (x1 : Int32), ∀ (x2 : Int32), ∀ (H : Heap) (locs : List Loc), va_P D vwCl (pool cy ad 0 82 M) H → va_D A (pool cy ad 0 82 M) → va_S A s.heap H locs → ∀ (ls : Array Slot), lv_has ls 4 [(0, .ref (ad j0)), (1, .int x1), (2, .int x2)] → b_X4_twos_4 N M j0 fu x1 x2 = some rr → W p l e ({ frames := 0, cells := 0, slots := 0, locals := 0 } : Room) s m args below meth c H locs 0 0 (MQ below (va_Qi (fun (x : Int32) (_ : Unit) => x = rr) (fun _ t => PA D cy ad 0 82 A M t) A) args s 0 0 A) (F0 m 4 ls []) := by
  obtain ⟨hx, hb, hml, hown, hts, hr, hlk, hK, hN, hA, hX⟩ := id C
  intro fu
  induction fu with
  | zero =>
    intro x1 x2 H locs hP hD hS ls hl h
    exact no_some (show none = some _ from h)
  | succ fu ih =>
    intro x1 x2 H locs hP hD hS ls hl h
    rw [b_X4_twos_4] at h
    refine lv_iload_n hx hb dX4_twos_4 rfl (lv_at hl 2 rfl) ?_
    refine lv_aload_n hx hb dX4_twos_5 rfl (lv_at hl 0 rfl) ?_
    refine gf_4_3 C hP (p_4 hk_j0) hk_j0 wd_148 dX4_twos_6 ?_
    refine lv_icmp_ge (tgt := 61) hx hb dX4_twos_9 (by decide) (fun c9 => ?_) (fun c9 => ?_)
    · replace h := it_t c9 h
      refine lv_iload_n hx hb dX4_twos_61 rfl (lv_at hl 1 rfl) ?_
      exact rt_i (r := x1) C hP hD hS dX4_twos_62 ⟨Option.some.inj h, rfl⟩
    · replace h := it_f c9 h
      refine lv_iload_n hx hb dX4_twos_12 rfl (lv_at hl 2 rfl) ?_
      refine lv_bipush (v := 6) hx hb dX4_twos_13 (by decide) ?_
      refine lv_icmp_ge (tgt := 61) hx hb dX4_twos_15 (by decide) (fun c15 => ?_) (fun c15 => ?_)
      · replace h := it_t c15 h
        refine lv_iload_n hx hb dX4_twos_61 rfl (lv_at hl 1 rfl) ?_
        exact rt_i (r := x1) C hP hD hS dX4_twos_62 ⟨Option.some.inj h, rfl⟩
      · replace h := it_f c15 h
        refine lv_iconst (v := 0) hx hb dX4_twos_18 (by decide) ?_
        refine lv_istore_n (lv' := [(3, .int (0 : Int32)), (0, .ref (ad j0)), (1, .int x1), (2, .int x2)]) hx hb dX4_twos_19 rfl hl (by decide) rfl (fun ls hl => ?_)
        exact w_X4_twos_20 C hk_j0 ih N _ _ _ _ _ hP hD hS _ (lv_sub hl [1, 2, 3, 0] rfl) h
def b_X4_twos_0 (N : Nat) (M : Mem) (j0 : Nat) : Option (Int32) := b_X4_twos_4 N M j0 N (0 : Int32) (0 : Int32)
set_option maxHeartbeats 4000000 in
set_option maxRecDepth 100000 in
theorem w_X4_twos_0 (C : CX p s m args meth c cX4_twos 4 (some .int) RX4 D cy ad zz 0 82 A) {N : Nat} {M : Mem} {j0 : Nat} (hk_j0 : kd j0 = 4) {rr : Int32} {H : Heap} {locs : List Loc} (hP : va_P D vwCl (pool cy ad 0 82 M) H) (hD : va_D A (pool cy ad 0 82 M)) (hS : va_S A s.heap H locs) {ls : Array Slot} (hl : lv_has ls 4 [(0, .ref (ad j0))]) (h : b_X4_twos_0 N M j0 = some rr) : W p l e ({ frames := 0, cells := 0, slots := 0, locals := 0 } : Room) s m args below meth c H locs 0 0 (MQ below (va_Qi (fun (x : Int32) (_ : Unit) => x = rr) (fun _ t => PA D cy ad 0 82 A M t) A) args s 0 0 A) (F0 m 0 ls []) := by
  obtain ⟨hx, hb, hml, hown, hts, hr, hlk, hK, hN, hA, hX⟩ := id C
  unfold b_X4_twos_0 at h
  refine lv_iconst (v := 0) hx hb dX4_twos_0 (by decide) ?_
  refine lv_istore_n (lv' := [(1, .int (0 : Int32)), (0, .ref (ad j0))]) hx hb dX4_twos_1 rfl hl (by decide) rfl (fun ls hl => ?_)
  refine lv_iconst (v := 0) hx hb dX4_twos_2 (by decide) ?_
  refine lv_istore_n (lv' := [(2, .int (0 : Int32)), (1, .int (0 : Int32)), (0, .ref (ad j0))]) hx hb dX4_twos_3 rfl hl (by decide) rfl (fun ls hl => ?_)
  exact w_X4_twos_4 C hk_j0 N _ _ _ _ hP hD hS _ (lv_sub hl [2, 1, 0] rfl) h
def f_X4_twos (N : Nat) (j0 : Nat) (M : Mem) : Option (Int32) := b_X4_twos_0 N M j0
theorem c_X4_twos {l : Launch} {D : va_G} {cy : Nat → ClassId} {ad : Nat → Nat} {zz : (Nat → Nat) × (Nat → Nat)} {N : Nat} {j0 : Nat} (hk_j0 : kd j0 = 4) {M : Mem} {rr : Int32} (h : f_X4_twos N j0 M = some rr) : CTi l D cy ad zz 0 82 yX4_twos (.code yX4_twos cX4_twos 4 (some .int) :: tb) ({ frames := 0, cells := 0, slots := 0, locals := 0 } : Room) [.ref (ad j0)] M rr M := by
  intro sz
  refine CX.of (by decide +kernel) (fun p e s m args below meth c H ls C hP hD hS hl => ?_) (Nat.le_of_ble_eq_true rfl)
  exact w_X4_twos_0 C hk_j0 hP hD hS hl h
theorem ev_X4_twos : yX4_twos.cls = RX4 ∧ yX4_twos.cls ≠ "java/lang/invoke/MethodHandle" ∧ yX4_twos.cls ≠ "java/lang/invoke/VarHandle" ∧ (parseMethodDescriptor yX4_twos.desc).map (fun d => d.parameters.length) = some 0 := by decide +kernel
end
