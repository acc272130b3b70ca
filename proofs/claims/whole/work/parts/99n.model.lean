/-! L3: the reference comes -/
def RM6 : Room := { frames := 5, cells := 20, slots := 2404, locals := 120 }
set_option maxHeartbeats 4000000 in
set_option maxRecDepth 100000 in
/-- BedsocksKeepRoadsModel(), up to the tape -/
theorem x6_a {l : Launch} {D : va_G} {cy : Nat → ClassId} {zz : (Nat → Nat) × (Nat → Nat)} {h0 : Nat} {p : Program} {e : Env} {s : State} {m : MethodId} {args : Array Value} {below : List Frame} {meth : Method} {c : Code} {A : Nat → Prop} {H : Heap} {locs : List Loc} {ls : Array Slot} {Q : State → Prop} (C : CW p s m args meth c cX6_init 2 RX6 D cy zz A) (hin : meth.name = "<init>") (hP : va_P D vwCl [(h0, .inr (6, [.int 0, .null, .null, .null, .null, .null, .long 0, .int 0, .null, .int 0, .null, .null, .int 0, .int 0, .int 0, .null, .long 0, .null, .null, .null, .null, .null, .int 0, .int 0, .int 0, .int 0, .null, .null, .int 0, .int 0, .int 0, .null, .null, .null, .int 0, .null, .int 0]))] H) (hD : va_D A [(h0, .inr (6, [.int 0, .null, .null, .null, .null, .null, .long 0, .int 0, .null, .int 0, .null, .null, .int 0, .int 0, .int 0, .null, .long 0, .null, .null, .null, .null, .null, .int 0, .int 0, .int 0, .int 0, .null, .null, .int 0, .int 0, .int 0, .null, .null, .null, .int 0, .null, .int 0]))]) (hS : va_S A s.heap H locs) (hl : lv_has ls 2 [(0, .ref h0)])
    (kk : ∀ (q1 q2 q3 q4 q5 q6 q7 q8 q9 q10 q11 q12 q13 q14 q15 q16 q17 q18 q19 q20 : Nat) (H : Heap) (locs : List Loc) (ls : Array Slot), va_P D vwCl ((q6, .inl (cy 0, 160, .inl (fun _ => 0))) :: (h0, .inr (6, [.int 0, .ref q1, .ref q2, .ref q3, .ref q4, .ref q5, .long 0, .int 0, .ref q6, .int 0, .ref q7, .ref q8, .int 0, .int 0, .int 0, .ref q9, .long 0, .ref q10, .ref q11, .ref q12, .ref q13, .ref q14, .int 0, .int 0, .int 0, .int 0, .ref q15, .ref q16, .int 0, .int 0, .int 0, .ref q17, .ref q18, .ref q19, .int 0, .ref q20, .int 0])) :: (q14, .inl (cy 0, 34, .inl (filF (fun k => nI (lawB k)) 34))) :: (q20, .inl (cy 0, 31, .inl (fun _ => 0))) :: (q19, .inl (cy 1, 6, .inr (.inl (fun _ => 0)))) :: (q18, .inl (cy 0, 6, .inl (fun _ => 0))) :: (q17, .inl (cy 0, 200, .inl (fun _ => 0))) :: (q16, .inl (cy 0, 200, .inl (fun _ => 0))) :: (q15, .inl (cy 0, 96, .inl (filF (fun k => nI (wtab.getD k 0)) 96))) :: (q13, .inl (cy 0, 160, .inl (fun _ => 0))) :: (q12, .inl (cy 0, 4, .inl (fun _ => 0))) :: (q11, .inl (cy 0, 4, .inl (filF (fun _ => (-1 : Int32)) 4))) :: (q10, .inl (cy 0, 3, .inl (fun _ => 0))) :: (q9, .inl (cy 0, 132, .inl (fun _ => 0))) :: (q8, .inl (cy 0, 24, .inl (fun _ => 0))) :: (q7, .inl (cy 0, 1200, .inl (fun _ => 0))) :: (q5, .inl (cy 0, 6, .inl (fun _ => 0))) :: (q4, .inl (cy 0, 96, .inl (fun _ => 0))) :: (q3, .inl (cy 0, 30, .inl (fun _ => 0))) :: (q2, .inl (cy 0, 6, .inl (fun _ => 0))) :: (q1, .inl (cy 0, 6, .inl (fun _ => 0))) :: []) H → va_D A ((q6, .inl (cy 0, 160, .inl (fun _ => 0))) :: (h0, .inr (6, [.int 0, .ref q1, .ref q2, .ref q3, .ref q4, .ref q5, .long 0, .int 0, .ref q6, .int 0, .ref q7, .ref q8, .int 0, .int 0, .int 0, .ref q9, .long 0, .ref q10, .ref q11, .ref q12, .ref q13, .ref q14, .int 0, .int 0, .int 0, .int 0, .ref q15, .ref q16, .int 0, .int 0, .int 0, .ref q17, .ref q18, .ref q19, .int 0, .ref q20, .int 0])) :: (q14, .inl (cy 0, 34, .inl (filF (fun k => nI (lawB k)) 34))) :: (q20, .inl (cy 0, 31, .inl (fun _ => 0))) :: (q19, .inl (cy 1, 6, .inr (.inl (fun _ => 0)))) :: (q18, .inl (cy 0, 6, .inl (fun _ => 0))) :: (q17, .inl (cy 0, 200, .inl (fun _ => 0))) :: (q16, .inl (cy 0, 200, .inl (fun _ => 0))) :: (q15, .inl (cy 0, 96, .inl (filF (fun k => nI (wtab.getD k 0)) 96))) :: (q13, .inl (cy 0, 160, .inl (fun _ => 0))) :: (q12, .inl (cy 0, 4, .inl (fun _ => 0))) :: (q11, .inl (cy 0, 4, .inl (filF (fun _ => (-1 : Int32)) 4))) :: (q10, .inl (cy 0, 3, .inl (fun _ => 0))) :: (q9, .inl (cy 0, 132, .inl (fun _ => 0))) :: (q8, .inl (cy 0, 24, .inl (fun _ => 0))) :: (q7, .inl (cy 0, 1200, .inl (fun _ => 0))) :: (q5, .inl (cy 0, 6, .inl (fun _ => 0))) :: (q4, .inl (cy 0, 96, .inl (fun _ => 0))) :: (q3, .inl (cy 0, 30, .inl (fun _ => 0))) :: (q2, .inl (cy 0, 6, .inl (fun _ => 0))) :: (q1, .inl (cy 0, 6, .inl (fun _ => 0))) :: []) → va_S A s.heap H locs → lv_has ls 2 [(1, .int 0), (0, .ref h0)] → W p l e RM6 s m args below meth c H locs 20 2404 Q (F0 m 953 ls [])) : W p l e RM6 s m args below meth c H locs 0 0 Q (F0 m 0 ls []) := by
  obtain ⟨hx, hb, hml, hown, hts, hlk, hK, hN2, hA, hX⟩ := id C
  refine lv_aload_n hx hb dX6_init_0 rfl (lv_at hl 0 rfl) ?_
  refine cw_obj C wd_834 hl.1 (Nat.le_of_ble_eq_true rfl) (Nat.le_of_ble_eq_true rfl) dX6_init_1 ?_
  refine lv_aload_n hx hb dX6_init_4 rfl (lv_at hl 0 rfl) ?_
  refine lv_bipush (v := 6) hx hb dX6_init_5 (by decide) ?_
  refine cw_ni C hP hD hS (N := 6) rfl (by decide) (Nat.le_of_ble_eq_true rfl) (Nat.le_of_ble_eq_true rfl) dX6_init_7 (fun q1 H hP hD hS => ?_)
  refine W.widen (k := 1) (n := 6) (Nat.le_of_ble_eq_true rfl) (Nat.le_of_ble_eq_true rfl) ?_
  refine va_putF (D := D) (ci := 6) (v := .ref q1) (C := RX6) (T := TX6) (N := 37) hx hb hts inT6 tyX6 tyX6_ok nmX6 hown hK hP hD hS 1 rfl rfl 1 (by decide) (hts _ wd_883) (fun _ h9 => h9) rfl hin rfl (tyX6_ok 1 (by decide)) rfl rfl (Nat.le_of_ble_eq_true rfl) dX6_init_9 (fun H locs hP hD hS => ?_)
  replace hP : va_P D vwCl ((q1, .inl (cy 0, 6, .inl (fun _ => 0))) :: (h0, .inr (6, [.int 0, .ref q1, .null, .null, .null, .null, .long 0, .int 0, .null, .int 0, .null, .null, .int 0, .int 0, .int 0, .null, .long 0, .null, .null, .null, .null, .null, .int 0, .int 0, .int 0, .int 0, .null, .null, .int 0, .int 0, .int 0, .null, .null, .null, .int 0, .null, .int 0])) :: []) H := hP
  replace hD : va_D A ((q1, .inl (cy 0, 6, .inl (fun _ => 0))) :: (h0, .inr (6, [.int 0, .ref q1, .null, .null, .null, .null, .long 0, .int 0, .null, .int 0, .null, .null, .int 0, .int 0, .int 0, .null, .long 0, .null, .null, .null, .null, .null, .int 0, .int 0, .int 0, .int 0, .null, .null, .int 0, .int 0, .int 0, .null, .null, .null, .int 0, .null, .int 0])) :: []) := hD
  replace hP : va_P D vwCl ((h0, .inr (6, [.int 0, .ref q1, .null, .null, .null, .null, .long 0, .int 0, .null, .int 0, .null, .null, .int 0, .int 0, .int 0, .null, .long 0, .null, .null, .null, .null, .null, .int 0, .int 0, .int 0, .int 0, .null, .null, .int 0, .int 0, .int 0, .null, .null, .null, .int 0, .null, .int 0])) :: (q1, .inl (cy 0, 6, .inl (fun _ => 0))) :: []) H := swp_P (a := [(q1, .inl (cy 0, 6, .inl (fun _ => 0)))]) (b := [(h0, .inr (6, [.int 0, .ref q1, .null, .null, .null, .null, .long 0, .int 0, .null, .int 0, .null, .null, .int 0, .int 0, .int 0, .null, .long 0, .null, .null, .null, .null, .null, .int 0, .int 0, .int 0, .int 0, .null, .null, .int 0, .int 0, .int 0, .null, .null, .null, .int 0, .null, .int 0]))]) hP
  replace hD : va_D A ((h0, .inr (6, [.int 0, .ref q1, .null, .null, .null, .null, .long 0, .int 0, .null, .int 0, .null, .null, .int 0, .int 0, .int 0, .null, .long 0, .null, .null, .null, .null, .null, .int 0, .int 0, .int 0, .int 0, .null, .null, .int 0, .int 0, .int 0, .null, .null, .null, .int 0, .null, .int 0])) :: (q1, .inl (cy 0, 6, .inl (fun _ => 0))) :: []) := swp_D (a := [(q1, .inl (cy 0, 6, .inl (fun _ => 0)))]) (b := [(h0, .inr (6, [.int 0, .ref q1, .null, .null, .null, .null, .long 0, .int 0, .null, .int 0, .null, .null, .int 0, .int 0, .int 0, .null, .long 0, .null, .null, .null, .null, .null, .int 0, .int 0, .int 0, .int 0, .null, .null, .int 0, .int 0, .int 0, .null, .null, .null, .int 0, .null, .int 0]))]) hD
  refine lv_aload_n hx hb dX6_init_12 rfl (lv_at hl 0 rfl) ?_
  refine lv_bipush (v := 6) hx hb dX6_init_13 (by decide) ?_
  refine cw_ni C hP hD hS (N := 6) rfl (by decide) (Nat.le_of_ble_eq_true rfl) (Nat.le_of_ble_eq_true rfl) dX6_init_15 (fun q2 H hP hD hS => ?_)
  refine W.widen (k := 2) (n := 12) (Nat.le_of_ble_eq_true rfl) (Nat.le_of_ble_eq_true rfl) ?_
  refine va_putF (D := D) (ci := 6) (v := .ref q2) (C := RX6) (T := TX6) (N := 37) hx hb hts inT6 tyX6 tyX6_ok nmX6 hown hK hP hD hS 1 rfl rfl 2 (by decide) (hts _ wd_884) (fun _ h9 => h9) rfl hin rfl (tyX6_ok 2 (by decide)) rfl rfl (Nat.le_of_ble_eq_true rfl) dX6_init_17 (fun H locs hP hD hS => ?_)
  replace hP : va_P D vwCl ((q2, .inl (cy 0, 6, .inl (fun _ => 0))) :: (h0, .inr (6, [.int 0, .ref q1, .ref q2, .null, .null, .null, .long 0, .int 0, .null, .int 0, .null, .null, .int 0, .int 0, .int 0, .null, .long 0, .null, .null, .null, .null, .null, .int 0, .int 0, .int 0, .int 0, .null, .null, .int 0, .int 0, .int 0, .null, .null, .null, .int 0, .null, .int 0])) :: (q1, .inl (cy 0, 6, .inl (fun _ => 0))) :: []) H := hP
  replace hD : va_D A ((q2, .inl (cy 0, 6, .inl (fun _ => 0))) :: (h0, .inr (6, [.int 0, .ref q1, .ref q2, .null, .null, .null, .long 0, .int 0, .null, .int 0, .null, .null, .int 0, .int 0, .int 0, .null, .long 0, .null, .null, .null, .null, .null, .int 0, .int 0, .int 0, .int 0, .null, .null, .int 0, .int 0, .int 0, .null, .null, .null, .int 0, .null, .int 0])) :: (q1, .inl (cy 0, 6, .inl (fun _ => 0))) :: []) := hD
  replace hP : va_P D vwCl ((h0, .inr (6, [.int 0, .ref q1, .ref q2, .null, .null, .null, .long 0, .int 0, .null, .int 0, .null, .null, .int 0, .int 0, .int 0, .null, .long 0, .null, .null, .null, .null, .null, .int 0, .int 0, .int 0, .int 0, .null, .null, .int 0, .int 0, .int 0, .null, .null, .null, .int 0, .null, .int 0])) :: (q2, .inl (cy 0, 6, .inl (fun _ => 0))) :: (q1, .inl (cy 0, 6, .inl (fun _ => 0))) :: []) H := swp_P (a := [(q2, .inl (cy 0, 6, .inl (fun _ => 0)))]) (b := [(h0, .inr (6, [.int 0, .ref q1, .ref q2, .null, .null, .null, .long 0, .int 0, .null, .int 0, .null, .null, .int 0, .int 0, .int 0, .null, .long 0, .null, .null, .null, .null, .null, .int 0, .int 0, .int 0, .int 0, .null, .null, .int 0, .int 0, .int 0, .null, .null, .null, .int 0, .null, .int 0]))]) hP
  replace hD : va_D A ((h0, .inr (6, [.int 0, .ref q1, .ref q2, .null, .null, .null, .long 0, .int 0, .null, .int 0, .null, .null, .int 0, .int 0, .int 0, .null, .long 0, .null, .null, .null, .null, .null, .int 0, .int 0, .int 0, .int 0, .null, .null, .int 0, .int 0, .int 0, .null, .null, .null, .int 0, .null, .int 0])) :: (q2, .inl (cy 0, 6, .inl (fun _ => 0))) :: (q1, .inl (cy 0, 6, .inl (fun _ => 0))) :: []) := swp_D (a := [(q2, .inl (cy 0, 6, .inl (fun _ => 0)))]) (b := [(h0, .inr (6, [.int 0, .ref q1, .ref q2, .null, .null, .null, .long 0, .int 0, .null, .int 0, .null, .null, .int 0, .int 0, .int 0, .null, .long 0, .null, .null, .null, .null, .null, .int 0, .int 0, .int 0, .int 0, .null, .null, .int 0, .int 0, .int 0, .null, .null, .null, .int 0, .null, .int 0]))]) hD
  refine lv_aload_n hx hb dX6_init_20 rfl (lv_at hl 0 rfl) ?_
  refine lv_bipush (v := 30) hx hb dX6_init_21 (by decide) ?_
  refine cw_ni C hP hD hS (N := 30) rfl (by decide) (Nat.le_of_ble_eq_true rfl) (Nat.le_of_ble_eq_true rfl) dX6_init_23 (fun q3 H hP hD hS => ?_)
  refine W.widen (k := 3) (n := 42) (Nat.le_of_ble_eq_true rfl) (Nat.le_of_ble_eq_true rfl) ?_
  refine va_putF (D := D) (ci := 6) (v := .ref q3) (C := RX6) (T := TX6) (N := 37) hx hb hts inT6 tyX6 tyX6_ok nmX6 hown hK hP hD hS 1 rfl rfl 3 (by decide) (hts _ wd_885) (fun _ h9 => h9) rfl hin rfl (tyX6_ok 3 (by decide)) rfl rfl (Nat.le_of_ble_eq_true rfl) dX6_init_25 (fun H locs hP hD hS => ?_)
  replace hP : va_P D vwCl ((q3, .inl (cy 0, 30, .inl (fun _ => 0))) :: (h0, .inr (6, [.int 0, .ref q1, .ref q2, .ref q3, .null, .null, .long 0, .int 0, .null, .int 0, .null, .null, .int 0, .int 0, .int 0, .null, .long 0, .null, .null, .null, .null, .null, .int 0, .int 0, .int 0, .int 0, .null, .null, .int 0, .int 0, .int 0, .null, .null, .null, .int 0, .null, .int 0])) :: (q2, .inl (cy 0, 6, .inl (fun _ => 0))) :: (q1, .inl (cy 0, 6, .inl (fun _ => 0))) :: []) H := hP
  replace hD : va_D A ((q3, .inl (cy 0, 30, .inl (fun _ => 0))) :: (h0, .inr (6, [.int 0, .ref q1, .ref q2, .ref q3, .null, .null, .long 0, .int 0, .null, .int 0, .null, .null, .int 0, .int 0, .int 0, .null, .long 0, .null, .null, .null, .null, .null, .int 0, .int 0, .int 0, .int 0, .null, .null, .int 0, .int 0, .int 0, .null, .null, .null, .int 0, .null, .int 0])) :: (q2, .inl (cy 0, 6, .inl (fun _ => 0))) :: (q1, .inl (cy 0, 6, .inl (fun _ => 0))) :: []) := hD
  replace hP : va_P D vwCl ((h0, .inr (6, [.int 0, .ref q1, .ref q2, .ref q3, .null, .null, .long 0, .int 0, .null, .int 0, .null, .null, .int 0, .int 0, .int 0, .null, .long 0, .null, .null, .null, .null, .null, .int 0, .int 0, .int 0, .int 0, .null, .null, .int 0, .int 0, .int 0, .null, .null, .null, .int 0, .null, .int 0])) :: (q3, .inl (cy 0, 30, .inl (fun _ => 0))) :: (q2, .inl (cy 0, 6, .inl (fun _ => 0))) :: (q1, .inl (cy 0, 6, .inl (fun _ => 0))) :: []) H := swp_P (a := [(q3, .inl (cy 0, 30, .inl (fun _ => 0)))]) (b := [(h0, .inr (6, [.int 0, .ref q1, .ref q2, .ref q3, .null, .null, .long 0, .int 0, .null, .int 0, .null, .null, .int 0, .int 0, .int 0, .null, .long 0, .null, .null, .null, .null, .null, .int 0, .int 0, .int 0, .int 0, .null, .null, .int 0, .int 0, .int 0, .null, .null, .null, .int 0, .null, .int 0]))]) hP
  replace hD : va_D A ((h0, .inr (6, [.int 0, .ref q1, .ref q2, .ref q3, .null, .null, .long 0, .int 0, .null, .int 0, .null, .null, .int 0, .int 0, .int 0, .null, .long 0, .null, .null, .null, .null, .null, .int 0, .int 0, .int 0, .int 0, .null, .null, .int 0, .int 0, .int 0, .null, .null, .null, .int 0, .null, .int 0])) :: (q3, .inl (cy 0, 30, .inl (fun _ => 0))) :: (q2, .inl (cy 0, 6, .inl (fun _ => 0))) :: (q1, .inl (cy 0, 6, .inl (fun _ => 0))) :: []) := swp_D (a := [(q3, .inl (cy 0, 30, .inl (fun _ => 0)))]) (b := [(h0, .inr (6, [.int 0, .ref q1, .ref q2, .ref q3, .null, .null, .long 0, .int 0, .null, .int 0, .null, .null, .int 0, .int 0, .int 0, .null, .long 0, .null, .null, .null, .null, .null, .int 0, .int 0, .int 0, .int 0, .null, .null, .int 0, .int 0, .int 0, .null, .null, .null, .int 0, .null, .int 0]))]) hD
  refine lv_aload_n hx hb dX6_init_28 rfl (lv_at hl 0 rfl) ?_
  refine lv_bipush (v := 96) hx hb dX6_init_29 (by decide) ?_
  refine cw_ni C hP hD hS (N := 96) rfl (by decide) (Nat.le_of_ble_eq_true rfl) (Nat.le_of_ble_eq_true rfl) dX6_init_31 (fun q4 H hP hD hS => ?_)
  refine W.widen (k := 4) (n := 138) (Nat.le_of_ble_eq_true rfl) (Nat.le_of_ble_eq_true rfl) ?_
  refine va_putF (D := D) (ci := 6) (v := .ref q4) (C := RX6) (T := TX6) (N := 37) hx hb hts inT6 tyX6 tyX6_ok nmX6 hown hK hP hD hS 1 rfl rfl 4 (by decide) (hts _ wd_886) (fun _ h9 => h9) rfl hin rfl (tyX6_ok 4 (by decide)) rfl rfl (Nat.le_of_ble_eq_true rfl) dX6_init_33 (fun H locs hP hD hS => ?_)
  replace hP : va_P D vwCl ((q4, .inl (cy 0, 96, .inl (fun _ => 0))) :: (h0, .inr (6, [.int 0, .ref q1, .ref q2, .ref q3, .ref q4, .null, .long 0, .int 0, .null, .int 0, .null, .null, .int 0, .int 0, .int 0, .null, .long 0, .null, .null, .null, .null, .null, .int 0, .int 0, .int 0, .int 0, .null, .null, .int 0, .int 0, .int 0, .null, .null, .null, .int 0, .null, .int 0])) :: (q3, .inl (cy 0, 30, .inl (fun _ => 0))) :: (q2, .inl (cy 0, 6, .inl (fun _ => 0))) :: (q1, .inl (cy 0, 6, .inl (fun _ => 0))) :: []) H := hP
  replace hD : va_D A ((q4, .inl (cy 0, 96, .inl (fun _ => 0))) :: (h0, .inr (6, [.int 0, .ref q1, .ref q2, .ref q3, .ref q4, .null, .long 0, .int 0, .null, .int 0, .null, .null, .int 0, .int 0, .int 0, .null, .long 0, .null, .null, .null, .null, .null, .int 0, .int 0, .int 0, .int 0, .null, .null, .int 0, .int 0, .int 0, .null, .null, .null, .int 0, .null, .int 0])) :: (q3, .inl (cy 0, 30, .inl (fun _ => 0))) :: (q2, .inl (cy 0, 6, .inl (fun _ => 0))) :: (q1, .inl (cy 0, 6, .inl (fun _ => 0))) :: []) := hD
  replace hP : va_P D vwCl ((h0, .inr (6, [.int 0, .ref q1, .ref q2, .ref q3, .ref q4, .null, .long 0, .int 0, .null, .int 0, .null, .null, .int 0, .int 0, .int 0, .null, .long 0, .null, .null, .null, .null, .null, .int 0, .int 0, .int 0, .int 0, .null, .null, .int 0, .int 0, .int 0, .null, .null, .null, .int 0, .null, .int 0])) :: (q4, .inl (cy 0, 96, .inl (fun _ => 0))) :: (q3, .inl (cy 0, 30, .inl (fun _ => 0))) :: (q2, .inl (cy 0, 6, .inl (fun _ => 0))) :: (q1, .inl (cy 0, 6, .inl (fun _ => 0))) :: []) H := swp_P (a := [(q4, .inl (cy 0, 96, .inl (fun _ => 0)))]) (b := [(h0, .inr (6, [.int 0, .ref q1, .ref q2, .ref q3, .ref q4, .null, .long 0, .int 0, .null, .int 0, .null, .null, .int 0, .int 0, .int 0, .null, .long 0, .null, .null, .null, .null, .null, .int 0, .int 0, .int 0, .int 0, .null, .null, .int 0, .int 0, .int 0, .null, .null, .null, .int 0, .null, .int 0]))]) hP
  replace hD : va_D A ((h0, .inr (6, [.int 0, .ref q1, .ref q2, .ref q3, .ref q4, .null, .long 0, .int 0, .null, .int 0, .null, .null, .int 0, .int 0, .int 0, .null, .long 0, .null, .null, .null, .null, .null, .int 0, .int 0, .int 0, .int 0, .null, .null, .int 0, .int 0, .int 0, .null, .null, .null, .int 0, .null, .int 0])) :: (q4, .inl (cy 0, 96, .inl (fun _ => 0))) :: (q3, .inl (cy 0, 30, .inl (fun _ => 0))) :: (q2, .inl (cy 0, 6, .inl (fun _ => 0))) :: (q1, .inl (cy 0, 6, .inl (fun _ => 0))) :: []) := swp_D (a := [(q4, .inl (cy 0, 96, .inl (fun _ => 0)))]) (b := [(h0, .inr (6, [.int 0, .ref q1, .ref q2, .ref q3, .ref q4, .null, .long 0, .int 0, .null, .int 0, .null, .null, .int 0, .int 0, .int 0, .null, .long 0, .null, .null, .null, .null, .null, .int 0, .int 0, .int 0, .int 0, .null, .null, .int 0, .int 0, .int 0, .null, .null, .null, .int 0, .null, .int 0]))]) hD
  refine lv_aload_n hx hb dX6_init_36 rfl (lv_at hl 0 rfl) ?_
  refine lv_bipush (v := 6) hx hb dX6_init_37 (by decide) ?_
  refine cw_ni C hP hD hS (N := 6) rfl (by decide) (Nat.le_of_ble_eq_true rfl) (Nat.le_of_ble_eq_true rfl) dX6_init_39 (fun q5 H hP hD hS => ?_)
  refine W.widen (k := 5) (n := 144) (Nat.le_of_ble_eq_true rfl) (Nat.le_of_ble_eq_true rfl) ?_
  refine va_putF (D := D) (ci := 6) (v := .ref q5) (C := RX6) (T := TX6) (N := 37) hx hb hts inT6 tyX6 tyX6_ok nmX6 hown hK hP hD hS 1 rfl rfl 5 (by decide) (hts _ wd_887) (fun _ h9 => h9) rfl hin rfl (tyX6_ok 5 (by decide)) rfl rfl (Nat.le_of_ble_eq_true rfl) dX6_init_41 (fun H locs hP hD hS => ?_)
  replace hP : va_P D vwCl ((q5, .inl (cy 0, 6, .inl (fun _ => 0))) :: (h0, .inr (6, [.int 0, .ref q1, .ref q2, .ref q3, .ref q4, .ref q5, .long 0, .int 0, .null, .int 0, .null, .null, .int 0, .int 0, .int 0, .null, .long 0, .null, .null, .null, .null, .null, .int 0, .int 0, .int 0, .int 0, .null, .null, .int 0, .int 0, .int 0, .null, .null, .null, .int 0, .null, .int 0])) :: (q4, .inl (cy 0, 96, .inl (fun _ => 0))) :: (q3, .inl (cy 0, 30, .inl (fun _ => 0))) :: (q2, .inl (cy 0, 6, .inl (fun _ => 0))) :: (q1, .inl (cy 0, 6, .inl (fun _ => 0))) :: []) H := hP
  replace hD : va_D A ((q5, .inl (cy 0, 6, .inl (fun _ => 0))) :: (h0, .inr (6, [.int 0, .ref q1, .ref q2, .ref q3, .ref q4, .ref q5, .long 0, .int 0, .null, .int 0, .null, .null, .int 0, .int 0, .int 0, .null, .long 0, .null, .null, .null, .null, .null, .int 0, .int 0, .int 0, .int 0, .null, .null, .int 0, .int 0, .int 0, .null, .null, .null, .int 0, .null, .int 0])) :: (q4, .inl (cy 0, 96, .inl (fun _ => 0))) :: (q3, .inl (cy 0, 30, .inl (fun _ => 0))) :: (q2, .inl (cy 0, 6, .inl (fun _ => 0))) :: (q1, .inl (cy 0, 6, .inl (fun _ => 0))) :: []) := hD
  replace hP : va_P D vwCl ((h0, .inr (6, [.int 0, .ref q1, .ref q2, .ref q3, .ref q4, .ref q5, .long 0, .int 0, .null, .int 0, .null, .null, .int 0, .int 0, .int 0, .null, .long 0, .null, .null, .null, .null, .null, .int 0, .int 0, .int 0, .int 0, .null, .null, .int 0, .int 0, .int 0, .null, .null, .null, .int 0, .null, .int 0])) :: (q5, .inl (cy 0, 6, .inl (fun _ => 0))) :: (q4, .inl (cy 0, 96, .inl (fun _ => 0))) :: (q3, .inl (cy 0, 30, .inl (fun _ => 0))) :: (q2, .inl (cy 0, 6, .inl (fun _ => 0))) :: (q1, .inl (cy 0, 6, .inl (fun _ => 0))) :: []) H := swp_P (a := [(q5, .inl (cy 0, 6, .inl (fun _ => 0)))]) (b := [(h0, .inr (6, [.int 0, .ref q1, .ref q2, .ref q3, .ref q4, .ref q5, .long 0, .int 0, .null, .int 0, .null, .null, .int 0, .int 0, .int 0, .null, .long 0, .null, .null, .null, .null, .null, .int 0, .int 0, .int 0, .int 0, .null, .null, .int 0, .int 0, .int 0, .null, .null, .null, .int 0, .null, .int 0]))]) hP
  replace hD : va_D A ((h0, .inr (6, [.int 0, .ref q1, .ref q2, .ref q3, .ref q4, .ref q5, .long 0, .int 0, .null, .int 0, .null, .null, .int 0, .int 0, .int 0, .null, .long 0, .null, .null, .null, .null, .null, .int 0, .int 0, .int 0, .int 0, .null, .null, .int 0, .int 0, .int 0, .null, .null, .null, .int 0, .null, .int 0])) :: (q5, .inl (cy 0, 6, .inl (fun _ => 0))) :: (q4, .inl (cy 0, 96, .inl (fun _ => 0))) :: (q3, .inl (cy 0, 30, .inl (fun _ => 0))) :: (q2, .inl (cy 0, 6, .inl (fun _ => 0))) :: (q1, .inl (cy 0, 6, .inl (fun _ => 0))) :: []) := swp_D (a := [(q5, .inl (cy 0, 6, .inl (fun _ => 0)))]) (b := [(h0, .inr (6, [.int 0, .ref q1, .ref q2, .ref q3, .ref q4, .ref q5, .long 0, .int 0, .null, .int 0, .null, .null, .int 0, .int 0, .int 0, .null, .long 0, .null, .null, .null, .null, .null, .int 0, .int 0, .int 0, .int 0, .null, .null, .int 0, .int 0, .int 0, .null, .null, .null, .int 0, .null, .int 0]))]) hD
  refine lv_aload_n hx hb dX6_init_44 rfl (lv_at hl 0 rfl) ?_
  refine lv_sipush (v := 160) hx hb dX6_init_45 (by decide) ?_
  refine cw_ni C hP hD hS (N := 160) rfl (by decide) (Nat.le_of_ble_eq_true rfl) (Nat.le_of_ble_eq_true rfl) dX6_init_48 (fun q6 H hP hD hS => ?_)
  refine W.widen (k := 6) (n := 304) (Nat.le_of_ble_eq_true rfl) (Nat.le_of_ble_eq_true rfl) ?_
  refine va_putF (D := D) (ci := 6) (v := .ref q6) (C := RX6) (T := TX6) (N := 37) hx hb hts inT6 tyX6 tyX6_ok nmX6 hown hK hP hD hS 1 rfl rfl 8 (by decide) (hts _ wd_890) (fun _ h9 => h9) rfl hin rfl (tyX6_ok 8 (by decide)) rfl rfl (Nat.le_of_ble_eq_true rfl) dX6_init_50 (fun H locs hP hD hS => ?_)
  replace hP : va_P D vwCl ((q6, .inl (cy 0, 160, .inl (fun _ => 0))) :: (h0, .inr (6, [.int 0, .ref q1, .ref q2, .ref q3, .ref q4, .ref q5, .long 0, .int 0, .ref q6, .int 0, .null, .null, .int 0, .int 0, .int 0, .null, .long 0, .null, .null, .null, .null, .null, .int 0, .int 0, .int 0, .int 0, .null, .null, .int 0, .int 0, .int 0, .null, .null, .null, .int 0, .null, .int 0])) :: (q5, .inl (cy 0, 6, .inl (fun _ => 0))) :: (q4, .inl (cy 0, 96, .inl (fun _ => 0))) :: (q3, .inl (cy 0, 30, .inl (fun _ => 0))) :: (q2, .inl (cy 0, 6, .inl (fun _ => 0))) :: (q1, .inl (cy 0, 6, .inl (fun _ => 0))) :: []) H := hP
  replace hD : va_D A ((q6, .inl (cy 0, 160, .inl (fun _ => 0))) :: (h0, .inr (6, [.int 0, .ref q1, .ref q2, .ref q3, .ref q4, .ref q5, .long 0, .int 0, .ref q6, .int 0, .null, .null, .int 0, .int 0, .int 0, .null, .long 0, .null, .null, .null, .null, .null, .int 0, .int 0, .int 0, .int 0, .null, .null, .int 0, .int 0, .int 0, .null, .null, .null, .int 0, .null, .int 0])) :: (q5, .inl (cy 0, 6, .inl (fun _ => 0))) :: (q4, .inl (cy 0, 96, .inl (fun _ => 0))) :: (q3, .inl (cy 0, 30, .inl (fun _ => 0))) :: (q2, .inl (cy 0, 6, .inl (fun _ => 0))) :: (q1, .inl (cy 0, 6, .inl (fun _ => 0))) :: []) := hD
  replace hP : va_P D vwCl ((h0, .inr (6, [.int 0, .ref q1, .ref q2, .ref q3, .ref q4, .ref q5, .long 0, .int 0, .ref q6, .int 0, .null, .null, .int 0, .int 0, .int 0, .null, .long 0, .null, .null, .null, .null, .null, .int 0, .int 0, .int 0, .int 0, .null, .null, .int 0, .int 0, .int 0, .null, .null, .null, .int 0, .null, .int 0])) :: (q6, .inl (cy 0, 160, .inl (fun _ => 0))) :: (q5, .inl (cy 0, 6, .inl (fun _ => 0))) :: (q4, .inl (cy 0, 96, .inl (fun _ => 0))) :: (q3, .inl (cy 0, 30, .inl (fun _ => 0))) :: (q2, .inl (cy 0, 6, .inl (fun _ => 0))) :: (q1, .inl (cy 0, 6, .inl (fun _ => 0))) :: []) H := swp_P (a := [(q6, .inl (cy 0, 160, .inl (fun _ => 0)))]) (b := [(h0, .inr (6, [.int 0, .ref q1, .ref q2, .ref q3, .ref q4, .ref q5, .long 0, .int 0, .ref q6, .int 0, .null, .null, .int 0, .int 0, .int 0, .null, .long 0, .null, .null, .null, .null, .null, .int 0, .int 0, .int 0, .int 0, .null, .null, .int 0, .int 0, .int 0, .null, .null, .null, .int 0, .null, .int 0]))]) hP
  replace hD : va_D A ((h0, .inr (6, [.int 0, .ref q1, .ref q2, .ref q3, .ref q4, .ref q5, .long 0, .int 0, .ref q6, .int 0, .null, .null, .int 0, .int 0, .int 0, .null, .long 0, .null, .null, .null, .null, .null, .int 0, .int 0, .int 0, .int 0, .null, .null, .int 0, .int 0, .int 0, .null, .null, .null, .int 0, .null, .int 0])) :: (q6, .inl (cy 0, 160, .inl (fun _ => 0))) :: (q5, .inl (cy 0, 6, .inl (fun _ => 0))) :: (q4, .inl (cy 0, 96, .inl (fun _ => 0))) :: (q3, .inl (cy 0, 30, .inl (fun _ => 0))) :: (q2, .inl (cy 0, 6, .inl (fun _ => 0))) :: (q1, .inl (cy 0, 6, .inl (fun _ => 0))) :: []) := swp_D (a := [(q6, .inl (cy 0, 160, .inl (fun _ => 0)))]) (b := [(h0, .inr (6, [.int 0, .ref q1, .ref q2, .ref q3, .ref q4, .ref q5, .long 0, .int 0, .ref q6, .int 0, .null, .null, .int 0, .int 0, .int 0, .null, .long 0, .null, .null, .null, .null, .null, .int 0, .int 0, .int 0, .int 0, .null, .null, .int 0, .int 0, .int 0, .null, .null, .null, .int 0, .null, .int 0]))]) hD
  refine lv_aload_n hx hb dX6_init_53 rfl (lv_at hl 0 rfl) ?_
  refine lv_sipush (v := 1200) hx hb dX6_init_54 (by decide) ?_
  refine cw_ni C hP hD hS (N := 1200) rfl (by decide) (Nat.le_of_ble_eq_true rfl) (Nat.le_of_ble_eq_true rfl) dX6_init_57 (fun q7 H hP hD hS => ?_)
  refine W.widen (k := 7) (n := 1504) (Nat.le_of_ble_eq_true rfl) (Nat.le_of_ble_eq_true rfl) ?_
  refine va_putF (D := D) (ci := 6) (v := .ref q7) (C := RX6) (T := TX6) (N := 37) hx hb hts inT6 tyX6 tyX6_ok nmX6 hown hK hP hD hS 1 rfl rfl 10 (by decide) (hts _ wd_892) (fun _ h9 => h9) rfl hin rfl (tyX6_ok 10 (by decide)) rfl rfl (Nat.le_of_ble_eq_true rfl) dX6_init_59 (fun H locs hP hD hS => ?_)
  replace hP : va_P D vwCl ((q7, .inl (cy 0, 1200, .inl (fun _ => 0))) :: (h0, .inr (6, [.int 0, .ref q1, .ref q2, .ref q3, .ref q4, .ref q5, .long 0, .int 0, .ref q6, .int 0, .ref q7, .null, .int 0, .int 0, .int 0, .null, .long 0, .null, .null, .null, .null, .null, .int 0, .int 0, .int 0, .int 0, .null, .null, .int 0, .int 0, .int 0, .null, .null, .null, .int 0, .null, .int 0])) :: (q6, .inl (cy 0, 160, .inl (fun _ => 0))) :: (q5, .inl (cy 0, 6, .inl (fun _ => 0))) :: (q4, .inl (cy 0, 96, .inl (fun _ => 0))) :: (q3, .inl (cy 0, 30, .inl (fun _ => 0))) :: (q2, .inl (cy 0, 6, .inl (fun _ => 0))) :: (q1, .inl (cy 0, 6, .inl (fun _ => 0))) :: []) H := hP
  replace hD : va_D A ((q7, .inl (cy 0, 1200, .inl (fun _ => 0))) :: (h0, .inr (6, [.int 0, .ref q1, .ref q2, .ref q3, .ref q4, .ref q5, .long 0, .int 0, .ref q6, .int 0, .ref q7, .null, .int 0, .int 0, .int 0, .null, .long 0, .null, .null, .null, .null, .null, .int 0, .int 0, .int 0, .int 0, .null, .null, .int 0, .int 0, .int 0, .null, .null, .null, .int 0, .null, .int 0])) :: (q6, .inl (cy 0, 160, .inl (fun _ => 0))) :: (q5, .inl (cy 0, 6, .inl (fun _ => 0))) :: (q4, .inl (cy 0, 96, .inl (fun _ => 0))) :: (q3, .inl (cy 0, 30, .inl (fun _ => 0))) :: (q2, .inl (cy 0, 6, .inl (fun _ => 0))) :: (q1, .inl (cy 0, 6, .inl (fun _ => 0))) :: []) := hD
  replace hP : va_P D vwCl ((h0, .inr (6, [.int 0, .ref q1, .ref q2, .ref q3, .ref q4, .ref q5, .long 0, .int 0, .ref q6, .int 0, .ref q7, .null, .int 0, .int 0, .int 0, .null, .long 0, .null, .null, .null, .null, .null, .int 0, .int 0, .int 0, .int 0, .null, .null, .int 0, .int 0, .int 0, .null, .null, .null, .int 0, .null, .int 0])) :: (q7, .inl (cy 0, 1200, .inl (fun _ => 0))) :: (q6, .inl (cy 0, 160, .inl (fun _ => 0))) :: (q5, .inl (cy 0, 6, .inl (fun _ => 0))) :: (q4, .inl (cy 0, 96, .inl (fun _ => 0))) :: (q3, .inl (cy 0, 30, .inl (fun _ => 0))) :: (q2, .inl (cy 0, 6, .inl (fun _ => 0))) :: (q1, .inl (cy 0, 6, .inl (fun _ => 0))) :: []) H := swp_P (a := [(q7, .inl (cy 0, 1200, .inl (fun _ => 0)))]) (b := [(h0, .inr (6, [.int 0, .ref q1, .ref q2, .ref q3, .ref q4, .ref q5, .long 0, .int 0, .ref q6, .int 0, .ref q7, .null, .int 0, .int 0, .int 0, .null, .long 0, .null, .null, .null, .null, .null, .int 0, .int 0, .int 0, .int 0, .null, .null, .int 0, .int 0, .int 0, .null, .null, .null, .int 0, .null, .int 0]))]) hP
  replace hD : va_D A ((h0, .inr (6, [.int 0, .ref q1, .ref q2, .ref q3, .ref q4, .ref q5, .long 0, .int 0, .ref q6, .int 0, .ref q7, .null, .int 0, .int 0, .int 0, .null, .long 0, .null, .null, .null, .null, .null, .int 0, .int 0, .int 0, .int 0, .null, .null, .int 0, .int 0, .int 0, .null, .null, .null, .int 0, .null, .int 0])) :: (q7, .inl (cy 0, 1200, .inl (fun _ => 0))) :: (q6, .inl (cy 0, 160, .inl (fun _ => 0))) :: (q5, .inl (cy 0, 6, .inl (fun _ => 0))) :: (q4, .inl (cy 0, 96, .inl (fun _ => 0))) :: (q3, .inl (cy 0, 30, .inl (fun _ => 0))) :: (q2, .inl (cy 0, 6, .inl (fun _ => 0))) :: (q1, .inl (cy 0, 6, .inl (fun _ => 0))) :: []) := swp_D (a := [(q7, .inl (cy 0, 1200, .inl (fun _ => 0)))]) (b := [(h0, .inr (6, [.int 0, .ref q1, .ref q2, .ref q3, .ref q4, .ref q5, .long 0, .int 0, .ref q6, .int 0, .ref q7, .null, .int 0, .int 0, .int 0, .null, .long 0, .null, .null, .null, .null, .null, .int 0, .int 0, .int 0, .int 0, .null, .null, .int 0, .int 0, .int 0, .null, .null, .null, .int 0, .null, .int 0]))]) hD
  refine lv_aload_n hx hb dX6_init_62 rfl (lv_at hl 0 rfl) ?_
  refine lv_bipush (v := 24) hx hb dX6_init_63 (by decide) ?_
  refine cw_ni C hP hD hS (N := 24) rfl (by decide) (Nat.le_of_ble_eq_true rfl) (Nat.le_of_ble_eq_true rfl) dX6_init_65 (fun q8 H hP hD hS => ?_)
  refine W.widen (k := 8) (n := 1528) (Nat.le_of_ble_eq_true rfl) (Nat.le_of_ble_eq_true rfl) ?_
  refine va_putF (D := D) (ci := 6) (v := .ref q8) (C := RX6) (T := TX6) (N := 37) hx hb hts inT6 tyX6 tyX6_ok nmX6 hown hK hP hD hS 1 rfl rfl 11 (by decide) (hts _ wd_893) (fun _ h9 => h9) rfl hin rfl (tyX6_ok 11 (by decide)) rfl rfl (Nat.le_of_ble_eq_true rfl) dX6_init_67 (fun H locs hP hD hS => ?_)
  replace hP : va_P D vwCl ((q8, .inl (cy 0, 24, .inl (fun _ => 0))) :: (h0, .inr (6, [.int 0, .ref q1, .ref q2, .ref q3, .ref q4, .ref q5, .long 0, .int 0, .ref q6, .int 0, .ref q7, .ref q8, .int 0, .int 0, .int 0, .null, .long 0, .null, .null, .null, .null, .null, .int 0, .int 0, .int 0, .int 0, .null, .null, .int 0, .int 0, .int 0, .null, .null, .null, .int 0, .null, .int 0])) :: (q7, .inl (cy 0, 1200, .inl (fun _ => 0))) :: (q6, .inl (cy 0, 160, .inl (fun _ => 0))) :: (q5, .inl (cy 0, 6, .inl (fun _ => 0))) :: (q4, .inl (cy 0, 96, .inl (fun _ => 0))) :: (q3, .inl (cy 0, 30, .inl (fun _ => 0))) :: (q2, .inl (cy 0, 6, .inl (fun _ => 0))) :: (q1, .inl (cy 0, 6, .inl (fun _ => 0))) :: []) H := hP
  replace hD : va_D A ((q8, .inl (cy 0, 24, .inl (fun _ => 0))) :: (h0, .inr (6, [.int 0, .ref q1, .ref q2, .ref q3, .ref q4, .ref q5, .long 0, .int 0, .ref q6, .int 0, .ref q7, .ref q8, .int 0, .int 0, .int 0, .null, .long 0, .null, .null, .null, .null, .null, .int 0, .int 0, .int 0, .int 0, .null, .null, .int 0, .int 0, .int 0, .null, .null, .null, .int 0, .null, .int 0])) :: (q7, .inl (cy 0, 1200, .inl (fun _ => 0))) :: (q6, .inl (cy 0, 160, .inl (fun _ => 0))) :: (q5, .inl (cy 0, 6, .inl (fun _ => 0))) :: (q4, .inl (cy 0, 96, .inl (fun _ => 0))) :: (q3, .inl (cy 0, 30, .inl (fun _ => 0))) :: (q2, .inl (cy 0, 6, .inl (fun _ => 0))) :: (q1, .inl (cy 0, 6, .inl (fun _ => 0))) :: []) := hD
  replace hP : va_P D vwCl ((h0, .inr (6, [.int 0, .ref q1, .ref q2, .ref q3, .ref q4, .ref q5, .long 0, .int 0, .ref q6, .int 0, .ref q7, .ref q8, .int 0, .int 0, .int 0, .null, .long 0, .null, .null, .null, .null, .null, .int 0, .int 0, .int 0, .int 0, .null, .null, .int 0, .int 0, .int 0, .null, .null, .null, .int 0, .null, .int 0])) :: (q8, .inl (cy 0, 24, .inl (fun _ => 0))) :: (q7, .inl (cy 0, 1200, .inl (fun _ => 0))) :: (q6, .inl (cy 0, 160, .inl (fun _ => 0))) :: (q5, .inl (cy 0, 6, .inl (fun _ => 0))) :: (q4, .inl (cy 0, 96, .inl (fun _ => 0))) :: (q3, .inl (cy 0, 30, .inl (fun _ => 0))) :: (q2, .inl (cy 0, 6, .inl (fun _ => 0))) :: (q1, .inl (cy 0, 6, .inl (fun _ => 0))) :: []) H := swp_P (a := [(q8, .inl (cy 0, 24, .inl (fun _ => 0)))]) (b := [(h0, .inr (6, [.int 0, .ref q1, .ref q2, .ref q3, .ref q4, .ref q5, .long 0, .int 0, .ref q6, .int 0, .ref q7, .ref q8, .int 0, .int 0, .int 0, .null, .long 0, .null, .null, .null, .null, .null, .int 0, .int 0, .int 0, .int 0, .null, .null, .int 0, .int 0, .int 0, .null, .null, .null, .int 0, .null, .int 0]))]) hP
  replace hD : va_D A ((h0, .inr (6, [.int 0, .ref q1, .ref q2, .ref q3, .ref q4, .ref q5, .long 0, .int 0, .ref q6, .int 0, .ref q7, .ref q8, .int 0, .int 0, .int 0, .null, .long 0, .null, .null, .null, .null, .null, .int 0, .int 0, .int 0, .int 0, .null, .null, .int 0, .int 0, .int 0, .null, .null, .null, .int 0, .null, .int 0])) :: (q8, .inl (cy 0, 24, .inl (fun _ => 0))) :: (q7, .inl (cy 0, 1200, .inl (fun _ => 0))) :: (q6, .inl (cy 0, 160, .inl (fun _ => 0))) :: (q5, .inl (cy 0, 6, .inl (fun _ => 0))) :: (q4, .inl (cy 0, 96, .inl (fun _ => 0))) :: (q3, .inl (cy 0, 30, .inl (fun _ => 0))) :: (q2, .inl (cy 0, 6, .inl (fun _ => 0))) :: (q1, .inl (cy 0, 6, .inl (fun _ => 0))) :: []) := swp_D (a := [(q8, .inl (cy 0, 24, .inl (fun _ => 0)))]) (b := [(h0, .inr (6, [.int 0, .ref q1, .ref q2, .ref q3, .ref q4, .ref q5, .long 0, .int 0, .ref q6, .int 0, .ref q7, .ref q8, .int 0, .int 0, .int 0, .null, .long 0, .null, .null, .null, .null, .null, .int 0, .int 0, .int 0, .int 0, .null, .null, .int 0, .int 0, .int 0, .null, .null, .null, .int 0, .null, .int 0]))]) hD
  refine lv_aload_n hx hb dX6_init_70 rfl (lv_at hl 0 rfl) ?_
  refine lv_sipush (v := 132) hx hb dX6_init_71 (by decide) ?_
  refine cw_ni C hP hD hS (N := 132) rfl (by decide) (Nat.le_of_ble_eq_true rfl) (Nat.le_of_ble_eq_true rfl) dX6_init_74 (fun q9 H hP hD hS => ?_)
  refine W.widen (k := 9) (n := 1660) (Nat.le_of_ble_eq_true rfl) (Nat.le_of_ble_eq_true rfl) ?_
  refine va_putF (D := D) (ci := 6) (v := .ref q9) (C := RX6) (T := TX6) (N := 37) hx hb hts inT6 tyX6 tyX6_ok nmX6 hown hK hP hD hS 1 rfl rfl 15 (by decide) (hts _ wd_897) (fun _ h9 => h9) rfl hin rfl (tyX6_ok 15 (by decide)) rfl rfl (Nat.le_of_ble_eq_true rfl) dX6_init_76 (fun H locs hP hD hS => ?_)
  replace hP : va_P D vwCl ((q9, .inl (cy 0, 132, .inl (fun _ => 0))) :: (h0, .inr (6, [.int 0, .ref q1, .ref q2, .ref q3, .ref q4, .ref q5, .long 0, .int 0, .ref q6, .int 0, .ref q7, .ref q8, .int 0, .int 0, .int 0, .ref q9, .long 0, .null, .null, .null, .null, .null, .int 0, .int 0, .int 0, .int 0, .null, .null, .int 0, .int 0, .int 0, .null, .null, .null, .int 0, .null, .int 0])) :: (q8, .inl (cy 0, 24, .inl (fun _ => 0))) :: (q7, .inl (cy 0, 1200, .inl (fun _ => 0))) :: (q6, .inl (cy 0, 160, .inl (fun _ => 0))) :: (q5, .inl (cy 0, 6, .inl (fun _ => 0))) :: (q4, .inl (cy 0, 96, .inl (fun _ => 0))) :: (q3, .inl (cy 0, 30, .inl (fun _ => 0))) :: (q2, .inl (cy 0, 6, .inl (fun _ => 0))) :: (q1, .inl (cy 0, 6, .inl (fun _ => 0))) :: []) H := hP
  replace hD : va_D A ((q9, .inl (cy 0, 132, .inl (fun _ => 0))) :: (h0, .inr (6, [.int 0, .ref q1, .ref q2, .ref q3, .ref q4, .ref q5, .long 0, .int 0, .ref q6, .int 0, .ref q7, .ref q8, .int 0, .int 0, .int 0, .ref q9, .long 0, .null, .null, .null, .null, .null, .int 0, .int 0, .int 0, .int 0, .null, .null, .int 0, .int 0, .int 0, .null, .null, .null, .int 0, .null, .int 0])) :: (q8, .inl (cy 0, 24, .inl (fun _ => 0))) :: (q7, .inl (cy 0, 1200, .inl (fun _ => 0))) :: (q6, .inl (cy 0, 160, .inl (fun _ => 0))) :: (q5, .inl (cy 0, 6, .inl (fun _ => 0))) :: (q4, .inl (cy 0, 96, .inl (fun _ => 0))) :: (q3, .inl (cy 0, 30, .inl (fun _ => 0))) :: (q2, .inl (cy 0, 6, .inl (fun _ => 0))) :: (q1, .inl (cy 0, 6, .inl (fun _ => 0))) :: []) := hD
  replace hP : va_P D vwCl ((h0, .inr (6, [.int 0, .ref q1, .ref q2, .ref q3, .ref q4, .ref q5, .long 0, .int 0, .ref q6, .int 0, .ref q7, .ref q8, .int 0, .int 0, .int 0, .ref q9, .long 0, .null, .null, .null, .null, .null, .int 0, .int 0, .int 0, .int 0, .null, .null, .int 0, .int 0, .int 0, .null, .null, .null, .int 0, .null, .int 0])) :: (q9, .inl (cy 0, 132, .inl (fun _ => 0))) :: (q8, .inl (cy 0, 24, .inl (fun _ => 0))) :: (q7, .inl (cy 0, 1200, .inl (fun _ => 0))) :: (q6, .inl (cy 0, 160, .inl (fun _ => 0))) :: (q5, .inl (cy 0, 6, .inl (fun _ => 0))) :: (q4, .inl (cy 0, 96, .inl (fun _ => 0))) :: (q3, .inl (cy 0, 30, .inl (fun _ => 0))) :: (q2, .inl (cy 0, 6, .inl (fun _ => 0))) :: (q1, .inl (cy 0, 6, .inl (fun _ => 0))) :: []) H := swp_P (a := [(q9, .inl (cy 0, 132, .inl (fun _ => 0)))]) (b := [(h0, .inr (6, [.int 0, .ref q1, .ref q2, .ref q3, .ref q4, .ref q5, .long 0, .int 0, .ref q6, .int 0, .ref q7, .ref q8, .int 0, .int 0, .int 0, .ref q9, .long 0, .null, .null, .null, .null, .null, .int 0, .int 0, .int 0, .int 0, .null, .null, .int 0, .int 0, .int 0, .null, .null, .null, .int 0, .null, .int 0]))]) hP
  replace hD : va_D A ((h0, .inr (6, [.int 0, .ref q1, .ref q2, .ref q3, .ref q4, .ref q5, .long 0, .int 0, .ref q6, .int 0, .ref q7, .ref q8, .int 0, .int 0, .int 0, .ref q9, .long 0, .null, .null, .null, .null, .null, .int 0, .int 0, .int 0, .int 0, .null, .null, .int 0, .int 0, .int 0, .null, .null, .null, .int 0, .null, .int 0])) :: (q9, .inl (cy 0, 132, .inl (fun _ => 0))) :: (q8, .inl (cy 0, 24, .inl (fun _ => 0))) :: (q7, .inl (cy 0, 1200, .inl (fun _ => 0))) :: (q6, .inl (cy 0, 160, .inl (fun _ => 0))) :: (q5, .inl (cy 0, 6, .inl (fun _ => 0))) :: (q4, .inl (cy 0, 96, .inl (fun _ => 0))) :: (q3, .inl (cy 0, 30, .inl (fun _ => 0))) :: (q2, .inl (cy 0, 6, .inl (fun _ => 0))) :: (q1, .inl (cy 0, 6, .inl (fun _ => 0))) :: []) := swp_D (a := [(q9, .inl (cy 0, 132, .inl (fun _ => 0)))]) (b := [(h0, .inr (6, [.int 0, .ref q1, .ref q2, .ref q3, .ref q4, .ref q5, .long 0, .int 0, .ref q6, .int 0, .ref q7, .ref q8, .int 0, .int 0, .int 0, .ref q9, .long 0, .null, .null, .null, .null, .null, .int 0, .int 0, .int 0, .int 0, .null, .null, .int 0, .int 0, .int 0, .null, .null, .null, .int 0, .null, .int 0]))]) hD
  refine lv_aload_n hx hb dX6_init_79 rfl (lv_at hl 0 rfl) ?_
  refine lv_iconst (v := 3) hx hb dX6_init_80 (by decide) ?_
  refine cw_ni C hP hD hS (N := 3) rfl (by decide) (Nat.le_of_ble_eq_true rfl) (Nat.le_of_ble_eq_true rfl) dX6_init_81 (fun q10 H hP hD hS => ?_)
  refine W.widen (k := 10) (n := 1663) (Nat.le_of_ble_eq_true rfl) (Nat.le_of_ble_eq_true rfl) ?_
  refine va_putF (D := D) (ci := 6) (v := .ref q10) (C := RX6) (T := TX6) (N := 37) hx hb hts inT6 tyX6 tyX6_ok nmX6 hown hK hP hD hS 1 rfl rfl 17 (by decide) (hts _ wd_899) (fun _ h9 => h9) rfl hin rfl (tyX6_ok 17 (by decide)) rfl rfl (Nat.le_of_ble_eq_true rfl) dX6_init_83 (fun H locs hP hD hS => ?_)
  replace hP : va_P D vwCl ((q10, .inl (cy 0, 3, .inl (fun _ => 0))) :: (h0, .inr (6, [.int 0, .ref q1, .ref q2, .ref q3, .ref q4, .ref q5, .long 0, .int 0, .ref q6, .int 0, .ref q7, .ref q8, .int 0, .int 0, .int 0, .ref q9, .long 0, .ref q10, .null, .null, .null, .null, .int 0, .int 0, .int 0, .int 0, .null, .null, .int 0, .int 0, .int 0, .null, .null, .null, .int 0, .null, .int 0])) :: (q9, .inl (cy 0, 132, .inl (fun _ => 0))) :: (q8, .inl (cy 0, 24, .inl (fun _ => 0))) :: (q7, .inl (cy 0, 1200, .inl (fun _ => 0))) :: (q6, .inl (cy 0, 160, .inl (fun _ => 0))) :: (q5, .inl (cy 0, 6, .inl (fun _ => 0))) :: (q4, .inl (cy 0, 96, .inl (fun _ => 0))) :: (q3, .inl (cy 0, 30, .inl (fun _ => 0))) :: (q2, .inl (cy 0, 6, .inl (fun _ => 0))) :: (q1, .inl (cy 0, 6, .inl (fun _ => 0))) :: []) H := hP
  replace hD : va_D A ((q10, .inl (cy 0, 3, .inl (fun _ => 0))) :: (h0, .inr (6, [.int 0, .ref q1, .ref q2, .ref q3, .ref q4, .ref q5, .long 0, .int 0, .ref q6, .int 0, .ref q7, .ref q8, .int 0, .int 0, .int 0, .ref q9, .long 0, .ref q10, .null, .null, .null, .null, .int 0, .int 0, .int 0, .int 0, .null, .null, .int 0, .int 0, .int 0, .null, .null, .null, .int 0, .null, .int 0])) :: (q9, .inl (cy 0, 132, .inl (fun _ => 0))) :: (q8, .inl (cy 0, 24, .inl (fun _ => 0))) :: (q7, .inl (cy 0, 1200, .inl (fun _ => 0))) :: (q6, .inl (cy 0, 160, .inl (fun _ => 0))) :: (q5, .inl (cy 0, 6, .inl (fun _ => 0))) :: (q4, .inl (cy 0, 96, .inl (fun _ => 0))) :: (q3, .inl (cy 0, 30, .inl (fun _ => 0))) :: (q2, .inl (cy 0, 6, .inl (fun _ => 0))) :: (q1, .inl (cy 0, 6, .inl (fun _ => 0))) :: []) := hD
  replace hP : va_P D vwCl ((h0, .inr (6, [.int 0, .ref q1, .ref q2, .ref q3, .ref q4, .ref q5, .long 0, .int 0, .ref q6, .int 0, .ref q7, .ref q8, .int 0, .int 0, .int 0, .ref q9, .long 0, .ref q10, .null, .null, .null, .null, .int 0, .int 0, .int 0, .int 0, .null, .null, .int 0, .int 0, .int 0, .null, .null, .null, .int 0, .null, .int 0])) :: (q10, .inl (cy 0, 3, .inl (fun _ => 0))) :: (q9, .inl (cy 0, 132, .inl (fun _ => 0))) :: (q8, .inl (cy 0, 24, .inl (fun _ => 0))) :: (q7, .inl (cy 0, 1200, .inl (fun _ => 0))) :: (q6, .inl (cy 0, 160, .inl (fun _ => 0))) :: (q5, .inl (cy 0, 6, .inl (fun _ => 0))) :: (q4, .inl (cy 0, 96, .inl (fun _ => 0))) :: (q3, .inl (cy 0, 30, .inl (fun _ => 0))) :: (q2, .inl (cy 0, 6, .inl (fun _ => 0))) :: (q1, .inl (cy 0, 6, .inl (fun _ => 0))) :: []) H := swp_P (a := [(q10, .inl (cy 0, 3, .inl (fun _ => 0)))]) (b := [(h0, .inr (6, [.int 0, .ref q1, .ref q2, .ref q3, .ref q4, .ref q5, .long 0, .int 0, .ref q6, .int 0, .ref q7, .ref q8, .int 0, .int 0, .int 0, .ref q9, .long 0, .ref q10, .null, .null, .null, .null, .int 0, .int 0, .int 0, .int 0, .null, .null, .int 0, .int 0, .int 0, .null, .null, .null, .int 0, .null, .int 0]))]) hP
  replace hD : va_D A ((h0, .inr (6, [.int 0, .ref q1, .ref q2, .ref q3, .ref q4, .ref q5, .long 0, .int 0, .ref q6, .int 0, .ref q7, .ref q8, .int 0, .int 0, .int 0, .ref q9, .long 0, .ref q10, .null, .null, .null, .null, .int 0, .int 0, .int 0, .int 0, .null, .null, .int 0, .int 0, .int 0, .null, .null, .null, .int 0, .null, .int 0])) :: (q10, .inl (cy 0, 3, .inl (fun _ => 0))) :: (q9, .inl (cy 0, 132, .inl (fun _ => 0))) :: (q8, .inl (cy 0, 24, .inl (fun _ => 0))) :: (q7, .inl (cy 0, 1200, .inl (fun _ => 0))) :: (q6, .inl (cy 0, 160, .inl (fun _ => 0))) :: (q5, .inl (cy 0, 6, .inl (fun _ => 0))) :: (q4, .inl (cy 0, 96, .inl (fun _ => 0))) :: (q3, .inl (cy 0, 30, .inl (fun _ => 0))) :: (q2, .inl (cy 0, 6, .inl (fun _ => 0))) :: (q1, .inl (cy 0, 6, .inl (fun _ => 0))) :: []) := swp_D (a := [(q10, .inl (cy 0, 3, .inl (fun _ => 0)))]) (b := [(h0, .inr (6, [.int 0, .ref q1, .ref q2, .ref q3, .ref q4, .ref q5, .long 0, .int 0, .ref q6, .int 0, .ref q7, .ref q8, .int 0, .int 0, .int 0, .ref q9, .long 0, .ref q10, .null, .null, .null, .null, .int 0, .int 0, .int 0, .int 0, .null, .null, .int 0, .int 0, .int 0, .null, .null, .null, .int 0, .null, .int 0]))]) hD
  refine lv_aload_n hx hb dX6_init_86 rfl (lv_at hl 0 rfl) ?_
  refine lv_iconst (v := 4) hx hb dX6_init_87 (by decide) ?_
  refine cw_ni C hP hD hS (N := 4) rfl (by decide) (Nat.le_of_ble_eq_true rfl) (Nat.le_of_ble_eq_true rfl) dX6_init_88 (fun q11 H hP hD hS => ?_)
  refine W.widen (k := 11) (n := 1667) (Nat.le_of_ble_eq_true rfl) (Nat.le_of_ble_eq_true rfl) ?_
  replace hP : va_P D vwCl ((q11, .inl (cy 0, 4, .inl (filF (fun _ => (-1 : Int32)) 0))) :: (h0, .inr (6, [.int 0, .ref q1, .ref q2, .ref q3, .ref q4, .ref q5, .long 0, .int 0, .ref q6, .int 0, .ref q7, .ref q8, .int 0, .int 0, .int 0, .ref q9, .long 0, .ref q10, .null, .null, .null, .null, .int 0, .int 0, .int 0, .int 0, .null, .null, .int 0, .int 0, .int 0, .null, .null, .null, .int 0, .null, .int 0])) :: (q10, .inl (cy 0, 3, .inl (fun _ => 0))) :: (q9, .inl (cy 0, 132, .inl (fun _ => 0))) :: (q8, .inl (cy 0, 24, .inl (fun _ => 0))) :: (q7, .inl (cy 0, 1200, .inl (fun _ => 0))) :: (q6, .inl (cy 0, 160, .inl (fun _ => 0))) :: (q5, .inl (cy 0, 6, .inl (fun _ => 0))) :: (q4, .inl (cy 0, 96, .inl (fun _ => 0))) :: (q3, .inl (cy 0, 30, .inl (fun _ => 0))) :: (q2, .inl (cy 0, 6, .inl (fun _ => 0))) :: (q1, .inl (cy 0, 6, .inl (fun _ => 0))) :: []) H := va_P.ri hP (fun k _ => (if_neg (Nat.not_lt_zero k)).symm)
  replace hD : va_D A ((q11, .inl (cy 0, 4, .inl (filF (fun _ => (-1 : Int32)) 0))) :: (h0, .inr (6, [.int 0, .ref q1, .ref q2, .ref q3, .ref q4, .ref q5, .long 0, .int 0, .ref q6, .int 0, .ref q7, .ref q8, .int 0, .int 0, .int 0, .ref q9, .long 0, .ref q10, .null, .null, .null, .null, .int 0, .int 0, .int 0, .int 0, .null, .null, .int 0, .int 0, .int 0, .null, .null, .null, .int 0, .null, .int 0])) :: (q10, .inl (cy 0, 3, .inl (fun _ => 0))) :: (q9, .inl (cy 0, 132, .inl (fun _ => 0))) :: (q8, .inl (cy 0, 24, .inl (fun _ => 0))) :: (q7, .inl (cy 0, 1200, .inl (fun _ => 0))) :: (q6, .inl (cy 0, 160, .inl (fun _ => 0))) :: (q5, .inl (cy 0, 6, .inl (fun _ => 0))) :: (q4, .inl (cy 0, 96, .inl (fun _ => 0))) :: (q3, .inl (cy 0, 30, .inl (fun _ => 0))) :: (q2, .inl (cy 0, 6, .inl (fun _ => 0))) :: (q1, .inl (cy 0, 6, .inl (fun _ => 0))) :: []) := va_D.re hD rfl
  refine lv_dup hx hb dX6_init_90 rfl ?_
  refine lv_iconst (v := 0) hx hb dX6_init_91 (by decide) ?_
  refine lv_iconst (v := (-1)) hx hb dX6_init_92 (by decide) ?_
  refine cw_fill (k := 0) C hP hD hS (by decide) (by decide) (by decide) (by decide) dX6_init_93 (fun H locs hP hD hS => ?_)
  refine lv_dup hx hb dX6_init_94 rfl ?_
  refine lv_iconst (v := 1) hx hb dX6_init_95 (by decide) ?_
  refine lv_iconst (v := (-1)) hx hb dX6_init_96 (by decide) ?_
  refine cw_fill (k := 1) C hP hD hS (by decide) (by decide) (by decide) (by decide) dX6_init_97 (fun H locs hP hD hS => ?_)
  refine lv_dup hx hb dX6_init_98 rfl ?_
  refine lv_iconst (v := 2) hx hb dX6_init_99 (by decide) ?_
  refine lv_iconst (v := (-1)) hx hb dX6_init_100 (by decide) ?_
  refine cw_fill (k := 2) C hP hD hS (by decide) (by decide) (by decide) (by decide) dX6_init_101 (fun H locs hP hD hS => ?_)
  refine lv_dup hx hb dX6_init_102 rfl ?_
  refine lv_iconst (v := 3) hx hb dX6_init_103 (by decide) ?_
  refine lv_iconst (v := (-1)) hx hb dX6_init_104 (by decide) ?_
  refine cw_fill (k := 3) C hP hD hS (by decide) (by decide) (by decide) (by decide) dX6_init_105 (fun H locs hP hD hS => ?_)
  refine va_putF (D := D) (ci := 6) (v := .ref q11) (C := RX6) (T := TX6) (N := 37) hx hb hts inT6 tyX6 tyX6_ok nmX6 hown hK hP hD hS 1 rfl rfl 18 (by decide) (hts _ wd_900) (fun _ h9 => h9) rfl hin rfl (tyX6_ok 18 (by decide)) rfl rfl (Nat.le_of_ble_eq_true rfl) dX6_init_106 (fun H locs hP hD hS => ?_)
  replace hP : va_P D vwCl ((q11, .inl (cy 0, 4, .inl (filF (fun _ => (-1 : Int32)) 4))) :: (h0, .inr (6, [.int 0, .ref q1, .ref q2, .ref q3, .ref q4, .ref q5, .long 0, .int 0, .ref q6, .int 0, .ref q7, .ref q8, .int 0, .int 0, .int 0, .ref q9, .long 0, .ref q10, .ref q11, .null, .null, .null, .int 0, .int 0, .int 0, .int 0, .null, .null, .int 0, .int 0, .int 0, .null, .null, .null, .int 0, .null, .int 0])) :: (q10, .inl (cy 0, 3, .inl (fun _ => 0))) :: (q9, .inl (cy 0, 132, .inl (fun _ => 0))) :: (q8, .inl (cy 0, 24, .inl (fun _ => 0))) :: (q7, .inl (cy 0, 1200, .inl (fun _ => 0))) :: (q6, .inl (cy 0, 160, .inl (fun _ => 0))) :: (q5, .inl (cy 0, 6, .inl (fun _ => 0))) :: (q4, .inl (cy 0, 96, .inl (fun _ => 0))) :: (q3, .inl (cy 0, 30, .inl (fun _ => 0))) :: (q2, .inl (cy 0, 6, .inl (fun _ => 0))) :: (q1, .inl (cy 0, 6, .inl (fun _ => 0))) :: []) H := hP
  replace hD : va_D A ((q11, .inl (cy 0, 4, .inl (filF (fun _ => (-1 : Int32)) 4))) :: (h0, .inr (6, [.int 0, .ref q1, .ref q2, .ref q3, .ref q4, .ref q5, .long 0, .int 0, .ref q6, .int 0, .ref q7, .ref q8, .int 0, .int 0, .int 0, .ref q9, .long 0, .ref q10, .ref q11, .null, .null, .null, .int 0, .int 0, .int 0, .int 0, .null, .null, .int 0, .int 0, .int 0, .null, .null, .null, .int 0, .null, .int 0])) :: (q10, .inl (cy 0, 3, .inl (fun _ => 0))) :: (q9, .inl (cy 0, 132, .inl (fun _ => 0))) :: (q8, .inl (cy 0, 24, .inl (fun _ => 0))) :: (q7, .inl (cy 0, 1200, .inl (fun _ => 0))) :: (q6, .inl (cy 0, 160, .inl (fun _ => 0))) :: (q5, .inl (cy 0, 6, .inl (fun _ => 0))) :: (q4, .inl (cy 0, 96, .inl (fun _ => 0))) :: (q3, .inl (cy 0, 30, .inl (fun _ => 0))) :: (q2, .inl (cy 0, 6, .inl (fun _ => 0))) :: (q1, .inl (cy 0, 6, .inl (fun _ => 0))) :: []) := hD
  replace hP : va_P D vwCl ((h0, .inr (6, [.int 0, .ref q1, .ref q2, .ref q3, .ref q4, .ref q5, .long 0, .int 0, .ref q6, .int 0, .ref q7, .ref q8, .int 0, .int 0, .int 0, .ref q9, .long 0, .ref q10, .ref q11, .null, .null, .null, .int 0, .int 0, .int 0, .int 0, .null, .null, .int 0, .int 0, .int 0, .null, .null, .null, .int 0, .null, .int 0])) :: (q11, .inl (cy 0, 4, .inl (filF (fun _ => (-1 : Int32)) 4))) :: (q10, .inl (cy 0, 3, .inl (fun _ => 0))) :: (q9, .inl (cy 0, 132, .inl (fun _ => 0))) :: (q8, .inl (cy 0, 24, .inl (fun _ => 0))) :: (q7, .inl (cy 0, 1200, .inl (fun _ => 0))) :: (q6, .inl (cy 0, 160, .inl (fun _ => 0))) :: (q5, .inl (cy 0, 6, .inl (fun _ => 0))) :: (q4, .inl (cy 0, 96, .inl (fun _ => 0))) :: (q3, .inl (cy 0, 30, .inl (fun _ => 0))) :: (q2, .inl (cy 0, 6, .inl (fun _ => 0))) :: (q1, .inl (cy 0, 6, .inl (fun _ => 0))) :: []) H := swp_P (a := [(q11, .inl (cy 0, 4, .inl (filF (fun _ => (-1 : Int32)) 4)))]) (b := [(h0, .inr (6, [.int 0, .ref q1, .ref q2, .ref q3, .ref q4, .ref q5, .long 0, .int 0, .ref q6, .int 0, .ref q7, .ref q8, .int 0, .int 0, .int 0, .ref q9, .long 0, .ref q10, .ref q11, .null, .null, .null, .int 0, .int 0, .int 0, .int 0, .null, .null, .int 0, .int 0, .int 0, .null, .null, .null, .int 0, .null, .int 0]))]) hP
  replace hD : va_D A ((h0, .inr (6, [.int 0, .ref q1, .ref q2, .ref q3, .ref q4, .ref q5, .long 0, .int 0, .ref q6, .int 0, .ref q7, .ref q8, .int 0, .int 0, .int 0, .ref q9, .long 0, .ref q10, .ref q11, .null, .null, .null, .int 0, .int 0, .int 0, .int 0, .null, .null, .int 0, .int 0, .int 0, .null, .null, .null, .int 0, .null, .int 0])) :: (q11, .inl (cy 0, 4, .inl (filF (fun _ => (-1 : Int32)) 4))) :: (q10, .inl (cy 0, 3, .inl (fun _ => 0))) :: (q9, .inl (cy 0, 132, .inl (fun _ => 0))) :: (q8, .inl (cy 0, 24, .inl (fun _ => 0))) :: (q7, .inl (cy 0, 1200, .inl (fun _ => 0))) :: (q6, .inl (cy 0, 160, .inl (fun _ => 0))) :: (q5, .inl (cy 0, 6, .inl (fun _ => 0))) :: (q4, .inl (cy 0, 96, .inl (fun _ => 0))) :: (q3, .inl (cy 0, 30, .inl (fun _ => 0))) :: (q2, .inl (cy 0, 6, .inl (fun _ => 0))) :: (q1, .inl (cy 0, 6, .inl (fun _ => 0))) :: []) := swp_D (a := [(q11, .inl (cy 0, 4, .inl (filF (fun _ => (-1 : Int32)) 4)))]) (b := [(h0, .inr (6, [.int 0, .ref q1, .ref q2, .ref q3, .ref q4, .ref q5, .long 0, .int 0, .ref q6, .int 0, .ref q7, .ref q8, .int 0, .int 0, .int 0, .ref q9, .long 0, .ref q10, .ref q11, .null, .null, .null, .int 0, .int 0, .int 0, .int 0, .null, .null, .int 0, .int 0, .int 0, .null, .null, .null, .int 0, .null, .int 0]))]) hD
  refine lv_aload_n hx hb dX6_init_109 rfl (lv_at hl 0 rfl) ?_
  refine lv_iconst (v := 4) hx hb dX6_init_110 (by decide) ?_
  refine cw_ni C hP hD hS (N := 4) rfl (by decide) (Nat.le_of_ble_eq_true rfl) (Nat.le_of_ble_eq_true rfl) dX6_init_111 (fun q12 H hP hD hS => ?_)
  refine W.widen (k := 12) (n := 1671) (Nat.le_of_ble_eq_true rfl) (Nat.le_of_ble_eq_true rfl) ?_
  refine va_putF (D := D) (ci := 6) (v := .ref q12) (C := RX6) (T := TX6) (N := 37) hx hb hts inT6 tyX6 tyX6_ok nmX6 hown hK hP hD hS 1 rfl rfl 19 (by decide) (hts _ wd_901) (fun _ h9 => h9) rfl hin rfl (tyX6_ok 19 (by decide)) rfl rfl (Nat.le_of_ble_eq_true rfl) dX6_init_113 (fun H locs hP hD hS => ?_)
  replace hP : va_P D vwCl ((q12, .inl (cy 0, 4, .inl (fun _ => 0))) :: (h0, .inr (6, [.int 0, .ref q1, .ref q2, .ref q3, .ref q4, .ref q5, .long 0, .int 0, .ref q6, .int 0, .ref q7, .ref q8, .int 0, .int 0, .int 0, .ref q9, .long 0, .ref q10, .ref q11, .ref q12, .null, .null, .int 0, .int 0, .int 0, .int 0, .null, .null, .int 0, .int 0, .int 0, .null, .null, .null, .int 0, .null, .int 0])) :: (q11, .inl (cy 0, 4, .inl (filF (fun _ => (-1 : Int32)) 4))) :: (q10, .inl (cy 0, 3, .inl (fun _ => 0))) :: (q9, .inl (cy 0, 132, .inl (fun _ => 0))) :: (q8, .inl (cy 0, 24, .inl (fun _ => 0))) :: (q7, .inl (cy 0, 1200, .inl (fun _ => 0))) :: (q6, .inl (cy 0, 160, .inl (fun _ => 0))) :: (q5, .inl (cy 0, 6, .inl (fun _ => 0))) :: (q4, .inl (cy 0, 96, .inl (fun _ => 0))) :: (q3, .inl (cy 0, 30, .inl (fun _ => 0))) :: (q2, .inl (cy 0, 6, .inl (fun _ => 0))) :: (q1, .inl (cy 0, 6, .inl (fun _ => 0))) :: []) H := hP
  replace hD : va_D A ((q12, .inl (cy 0, 4, .inl (fun _ => 0))) :: (h0, .inr (6, [.int 0, .ref q1, .ref q2, .ref q3, .ref q4, .ref q5, .long 0, .int 0, .ref q6, .int 0, .ref q7, .ref q8, .int 0, .int 0, .int 0, .ref q9, .long 0, .ref q10, .ref q11, .ref q12, .null, .null, .int 0, .int 0, .int 0, .int 0, .null, .null, .int 0, .int 0, .int 0, .null, .null, .null, .int 0, .null, .int 0])) :: (q11, .inl (cy 0, 4, .inl (filF (fun _ => (-1 : Int32)) 4))) :: (q10, .inl (cy 0, 3, .inl (fun _ => 0))) :: (q9, .inl (cy 0, 132, .inl (fun _ => 0))) :: (q8, .inl (cy 0, 24, .inl (fun _ => 0))) :: (q7, .inl (cy 0, 1200, .inl (fun _ => 0))) :: (q6, .inl (cy 0, 160, .inl (fun _ => 0))) :: (q5, .inl (cy 0, 6, .inl (fun _ => 0))) :: (q4, .inl (cy 0, 96, .inl (fun _ => 0))) :: (q3, .inl (cy 0, 30, .inl (fun _ => 0))) :: (q2, .inl (cy 0, 6, .inl (fun _ => 0))) :: (q1, .inl (cy 0, 6, .inl (fun _ => 0))) :: []) := hD
  replace hP : va_P D vwCl ((h0, .inr (6, [.int 0, .ref q1, .ref q2, .ref q3, .ref q4, .ref q5, .long 0, .int 0, .ref q6, .int 0, .ref q7, .ref q8, .int 0, .int 0, .int 0, .ref q9, .long 0, .ref q10, .ref q11, .ref q12, .null, .null, .int 0, .int 0, .int 0, .int 0, .null, .null, .int 0, .int 0, .int 0, .null, .null, .null, .int 0, .null, .int 0])) :: (q12, .inl (cy 0, 4, .inl (fun _ => 0))) :: (q11, .inl (cy 0, 4, .inl (filF (fun _ => (-1 : Int32)) 4))) :: (q10, .inl (cy 0, 3, .inl (fun _ => 0))) :: (q9, .inl (cy 0, 132, .inl (fun _ => 0))) :: (q8, .inl (cy 0, 24, .inl (fun _ => 0))) :: (q7, .inl (cy 0, 1200, .inl (fun _ => 0))) :: (q6, .inl (cy 0, 160, .inl (fun _ => 0))) :: (q5, .inl (cy 0, 6, .inl (fun _ => 0))) :: (q4, .inl (cy 0, 96, .inl (fun _ => 0))) :: (q3, .inl (cy 0, 30, .inl (fun _ => 0))) :: (q2, .inl (cy 0, 6, .inl (fun _ => 0))) :: (q1, .inl (cy 0, 6, .inl (fun _ => 0))) :: []) H := swp_P (a := [(q12, .inl (cy 0, 4, .inl (fun _ => 0)))]) (b := [(h0, .inr (6, [.int 0, .ref q1, .ref q2, .ref q3, .ref q4, .ref q5, .long 0, .int 0, .ref q6, .int 0, .ref q7, .ref q8, .int 0, .int 0, .int 0, .ref q9, .long 0, .ref q10, .ref q11, .ref q12, .null, .null, .int 0, .int 0, .int 0, .int 0, .null, .null, .int 0, .int 0, .int 0, .null, .null, .null, .int 0, .null, .int 0]))]) hP
  replace hD : va_D A ((h0, .inr (6, [.int 0, .ref q1, .ref q2, .ref q3, .ref q4, .ref q5, .long 0, .int 0, .ref q6, .int 0, .ref q7, .ref q8, .int 0, .int 0, .int 0, .ref q9, .long 0, .ref q10, .ref q11, .ref q12, .null, .null, .int 0, .int 0, .int 0, .int 0, .null, .null, .int 0, .int 0, .int 0, .null, .null, .null, .int 0, .null, .int 0])) :: (q12, .inl (cy 0, 4, .inl (fun _ => 0))) :: (q11, .inl (cy 0, 4, .inl (filF (fun _ => (-1 : Int32)) 4))) :: (q10, .inl (cy 0, 3, .inl (fun _ => 0))) :: (q9, .inl (cy 0, 132, .inl (fun _ => 0))) :: (q8, .inl (cy 0, 24, .inl (fun _ => 0))) :: (q7, .inl (cy 0, 1200, .inl (fun _ => 0))) :: (q6, .inl (cy 0, 160, .inl (fun _ => 0))) :: (q5, .inl (cy 0, 6, .inl (fun _ => 0))) :: (q4, .inl (cy 0, 96, .inl (fun _ => 0))) :: (q3, .inl (cy 0, 30, .inl (fun _ => 0))) :: (q2, .inl (cy 0, 6, .inl (fun _ => 0))) :: (q1, .inl (cy 0, 6, .inl (fun _ => 0))) :: []) := swp_D (a := [(q12, .inl (cy 0, 4, .inl (fun _ => 0)))]) (b := [(h0, .inr (6, [.int 0, .ref q1, .ref q2, .ref q3, .ref q4, .ref q5, .long 0, .int 0, .ref q6, .int 0, .ref q7, .ref q8, .int 0, .int 0, .int 0, .ref q9, .long 0, .ref q10, .ref q11, .ref q12, .null, .null, .int 0, .int 0, .int 0, .int 0, .null, .null, .int 0, .int 0, .int 0, .null, .null, .null, .int 0, .null, .int 0]))]) hD
  refine lv_aload_n hx hb dX6_init_116 rfl (lv_at hl 0 rfl) ?_
  refine lv_sipush (v := 160) hx hb dX6_init_117 (by decide) ?_
  refine cw_ni C hP hD hS (N := 160) rfl (by decide) (Nat.le_of_ble_eq_true rfl) (Nat.le_of_ble_eq_true rfl) dX6_init_120 (fun q13 H hP hD hS => ?_)
  refine W.widen (k := 13) (n := 1831) (Nat.le_of_ble_eq_true rfl) (Nat.le_of_ble_eq_true rfl) ?_
  refine va_putF (D := D) (ci := 6) (v := .ref q13) (C := RX6) (T := TX6) (N := 37) hx hb hts inT6 tyX6 tyX6_ok nmX6 hown hK hP hD hS 1 rfl rfl 20 (by decide) (hts _ wd_902) (fun _ h9 => h9) rfl hin rfl (tyX6_ok 20 (by decide)) rfl rfl (Nat.le_of_ble_eq_true rfl) dX6_init_122 (fun H locs hP hD hS => ?_)
  replace hP : va_P D vwCl ((q13, .inl (cy 0, 160, .inl (fun _ => 0))) :: (h0, .inr (6, [.int 0, .ref q1, .ref q2, .ref q3, .ref q4, .ref q5, .long 0, .int 0, .ref q6, .int 0, .ref q7, .ref q8, .int 0, .int 0, .int 0, .ref q9, .long 0, .ref q10, .ref q11, .ref q12, .ref q13, .null, .int 0, .int 0, .int 0, .int 0, .null, .null, .int 0, .int 0, .int 0, .null, .null, .null, .int 0, .null, .int 0])) :: (q12, .inl (cy 0, 4, .inl (fun _ => 0))) :: (q11, .inl (cy 0, 4, .inl (filF (fun _ => (-1 : Int32)) 4))) :: (q10, .inl (cy 0, 3, .inl (fun _ => 0))) :: (q9, .inl (cy 0, 132, .inl (fun _ => 0))) :: (q8, .inl (cy 0, 24, .inl (fun _ => 0))) :: (q7, .inl (cy 0, 1200, .inl (fun _ => 0))) :: (q6, .inl (cy 0, 160, .inl (fun _ => 0))) :: (q5, .inl (cy 0, 6, .inl (fun _ => 0))) :: (q4, .inl (cy 0, 96, .inl (fun _ => 0))) :: (q3, .inl (cy 0, 30, .inl (fun _ => 0))) :: (q2, .inl (cy 0, 6, .inl (fun _ => 0))) :: (q1, .inl (cy 0, 6, .inl (fun _ => 0))) :: []) H := hP
  replace hD : va_D A ((q13, .inl (cy 0, 160, .inl (fun _ => 0))) :: (h0, .inr (6, [.int 0, .ref q1, .ref q2, .ref q3, .ref q4, .ref q5, .long 0, .int 0, .ref q6, .int 0, .ref q7, .ref q8, .int 0, .int 0, .int 0, .ref q9, .long 0, .ref q10, .ref q11, .ref q12, .ref q13, .null, .int 0, .int 0, .int 0, .int 0, .null, .null, .int 0, .int 0, .int 0, .null, .null, .null, .int 0, .null, .int 0])) :: (q12, .inl (cy 0, 4, .inl (fun _ => 0))) :: (q11, .inl (cy 0, 4, .inl (filF (fun _ => (-1 : Int32)) 4))) :: (q10, .inl (cy 0, 3, .inl (fun _ => 0))) :: (q9, .inl (cy 0, 132, .inl (fun _ => 0))) :: (q8, .inl (cy 0, 24, .inl (fun _ => 0))) :: (q7, .inl (cy 0, 1200, .inl (fun _ => 0))) :: (q6, .inl (cy 0, 160, .inl (fun _ => 0))) :: (q5, .inl (cy 0, 6, .inl (fun _ => 0))) :: (q4, .inl (cy 0, 96, .inl (fun _ => 0))) :: (q3, .inl (cy 0, 30, .inl (fun _ => 0))) :: (q2, .inl (cy 0, 6, .inl (fun _ => 0))) :: (q1, .inl (cy 0, 6, .inl (fun _ => 0))) :: []) := hD
  replace hP : va_P D vwCl ((h0, .inr (6, [.int 0, .ref q1, .ref q2, .ref q3, .ref q4, .ref q5, .long 0, .int 0, .ref q6, .int 0, .ref q7, .ref q8, .int 0, .int 0, .int 0, .ref q9, .long 0, .ref q10, .ref q11, .ref q12, .ref q13, .null, .int 0, .int 0, .int 0, .int 0, .null, .null, .int 0, .int 0, .int 0, .null, .null, .null, .int 0, .null, .int 0])) :: (q13, .inl (cy 0, 160, .inl (fun _ => 0))) :: (q12, .inl (cy 0, 4, .inl (fun _ => 0))) :: (q11, .inl (cy 0, 4, .inl (filF (fun _ => (-1 : Int32)) 4))) :: (q10, .inl (cy 0, 3, .inl (fun _ => 0))) :: (q9, .inl (cy 0, 132, .inl (fun _ => 0))) :: (q8, .inl (cy 0, 24, .inl (fun _ => 0))) :: (q7, .inl (cy 0, 1200, .inl (fun _ => 0))) :: (q6, .inl (cy 0, 160, .inl (fun _ => 0))) :: (q5, .inl (cy 0, 6, .inl (fun _ => 0))) :: (q4, .inl (cy 0, 96, .inl (fun _ => 0))) :: (q3, .inl (cy 0, 30, .inl (fun _ => 0))) :: (q2, .inl (cy 0, 6, .inl (fun _ => 0))) :: (q1, .inl (cy 0, 6, .inl (fun _ => 0))) :: []) H := swp_P (a := [(q13, .inl (cy 0, 160, .inl (fun _ => 0)))]) (b := [(h0, .inr (6, [.int 0, .ref q1, .ref q2, .ref q3, .ref q4, .ref q5, .long 0, .int 0, .ref q6, .int 0, .ref q7, .ref q8, .int 0, .int 0, .int 0, .ref q9, .long 0, .ref q10, .ref q11, .ref q12, .ref q13, .null, .int 0, .int 0, .int 0, .int 0, .null, .null, .int 0, .int 0, .int 0, .null, .null, .null, .int 0, .null, .int 0]))]) hP
  replace hD : va_D A ((h0, .inr (6, [.int 0, .ref q1, .ref q2, .ref q3, .ref q4, .ref q5, .long 0, .int 0, .ref q6, .int 0, .ref q7, .ref q8, .int 0, .int 0, .int 0, .ref q9, .long 0, .ref q10, .ref q11, .ref q12, .ref q13, .null, .int 0, .int 0, .int 0, .int 0, .null, .null, .int 0, .int 0, .int 0, .null, .null, .null, .int 0, .null, .int 0])) :: (q13, .inl (cy 0, 160, .inl (fun _ => 0))) :: (q12, .inl (cy 0, 4, .inl (fun _ => 0))) :: (q11, .inl (cy 0, 4, .inl (filF (fun _ => (-1 : Int32)) 4))) :: (q10, .inl (cy 0, 3, .inl (fun _ => 0))) :: (q9, .inl (cy 0, 132, .inl (fun _ => 0))) :: (q8, .inl (cy 0, 24, .inl (fun _ => 0))) :: (q7, .inl (cy 0, 1200, .inl (fun _ => 0))) :: (q6, .inl (cy 0, 160, .inl (fun _ => 0))) :: (q5, .inl (cy 0, 6, .inl (fun _ => 0))) :: (q4, .inl (cy 0, 96, .inl (fun _ => 0))) :: (q3, .inl (cy 0, 30, .inl (fun _ => 0))) :: (q2, .inl (cy 0, 6, .inl (fun _ => 0))) :: (q1, .inl (cy 0, 6, .inl (fun _ => 0))) :: []) := swp_D (a := [(q13, .inl (cy 0, 160, .inl (fun _ => 0)))]) (b := [(h0, .inr (6, [.int 0, .ref q1, .ref q2, .ref q3, .ref q4, .ref q5, .long 0, .int 0, .ref q6, .int 0, .ref q7, .ref q8, .int 0, .int 0, .int 0, .ref q9, .long 0, .ref q10, .ref q11, .ref q12, .ref q13, .null, .int 0, .int 0, .int 0, .int 0, .null, .null, .int 0, .int 0, .int 0, .null, .null, .null, .int 0, .null, .int 0]))]) hD
  refine lv_aload_n hx hb dX6_init_125 rfl (lv_at hl 0 rfl) ?_
  refine lv_bipush (v := 34) hx hb dX6_init_126 (by decide) ?_
  refine cw_ni C hP hD hS (N := 34) rfl (by decide) (Nat.le_of_ble_eq_true rfl) (Nat.le_of_ble_eq_true rfl) dX6_init_128 (fun q14 H hP hD hS => ?_)
  refine W.widen (k := 14) (n := 1865) (Nat.le_of_ble_eq_true rfl) (Nat.le_of_ble_eq_true rfl) ?_
  replace hP : va_P D vwCl ((q14, .inl (cy 0, 34, .inl (filF (fun k => nI (lawB k)) 0))) :: (h0, .inr (6, [.int 0, .ref q1, .ref q2, .ref q3, .ref q4, .ref q5, .long 0, .int 0, .ref q6, .int 0, .ref q7, .ref q8, .int 0, .int 0, .int 0, .ref q9, .long 0, .ref q10, .ref q11, .ref q12, .ref q13, .null, .int 0, .int 0, .int 0, .int 0, .null, .null, .int 0, .int 0, .int 0, .null, .null, .null, .int 0, .null, .int 0])) :: (q13, .inl (cy 0, 160, .inl (fun _ => 0))) :: (q12, .inl (cy 0, 4, .inl (fun _ => 0))) :: (q11, .inl (cy 0, 4, .inl (filF (fun _ => (-1 : Int32)) 4))) :: (q10, .inl (cy 0, 3, .inl (fun _ => 0))) :: (q9, .inl (cy 0, 132, .inl (fun _ => 0))) :: (q8, .inl (cy 0, 24, .inl (fun _ => 0))) :: (q7, .inl (cy 0, 1200, .inl (fun _ => 0))) :: (q6, .inl (cy 0, 160, .inl (fun _ => 0))) :: (q5, .inl (cy 0, 6, .inl (fun _ => 0))) :: (q4, .inl (cy 0, 96, .inl (fun _ => 0))) :: (q3, .inl (cy 0, 30, .inl (fun _ => 0))) :: (q2, .inl (cy 0, 6, .inl (fun _ => 0))) :: (q1, .inl (cy 0, 6, .inl (fun _ => 0))) :: []) H := va_P.ri hP (fun k _ => (if_neg (Nat.not_lt_zero k)).symm)
  replace hD : va_D A ((q14, .inl (cy 0, 34, .inl (filF (fun k => nI (lawB k)) 0))) :: (h0, .inr (6, [.int 0, .ref q1, .ref q2, .ref q3, .ref q4, .ref q5, .long 0, .int 0, .ref q6, .int 0, .ref q7, .ref q8, .int 0, .int 0, .int 0, .ref q9, .long 0, .ref q10, .ref q11, .ref q12, .ref q13, .null, .int 0, .int 0, .int 0, .int 0, .null, .null, .int 0, .int 0, .int 0, .null, .null, .null, .int 0, .null, .int 0])) :: (q13, .inl (cy 0, 160, .inl (fun _ => 0))) :: (q12, .inl (cy 0, 4, .inl (fun _ => 0))) :: (q11, .inl (cy 0, 4, .inl (filF (fun _ => (-1 : Int32)) 4))) :: (q10, .inl (cy 0, 3, .inl (fun _ => 0))) :: (q9, .inl (cy 0, 132, .inl (fun _ => 0))) :: (q8, .inl (cy 0, 24, .inl (fun _ => 0))) :: (q7, .inl (cy 0, 1200, .inl (fun _ => 0))) :: (q6, .inl (cy 0, 160, .inl (fun _ => 0))) :: (q5, .inl (cy 0, 6, .inl (fun _ => 0))) :: (q4, .inl (cy 0, 96, .inl (fun _ => 0))) :: (q3, .inl (cy 0, 30, .inl (fun _ => 0))) :: (q2, .inl (cy 0, 6, .inl (fun _ => 0))) :: (q1, .inl (cy 0, 6, .inl (fun _ => 0))) :: []) := va_D.re hD rfl
  refine lv_dup hx hb dX6_init_130 rfl ?_
  refine lv_iconst (v := 0) hx hb dX6_init_131 (by decide) ?_
  refine lv_bipush (v := 103) hx hb dX6_init_132 (by decide) ?_
  refine cw_fill (k := 0) C hP hD hS (by decide) (by decide) (by decide) (by decide) dX6_init_134 (fun H locs hP hD hS => ?_)
  refine lv_dup hx hb dX6_init_135 rfl ?_
  refine lv_iconst (v := 1) hx hb dX6_init_136 (by decide) ?_
  refine lv_bipush (v := 111) hx hb dX6_init_137 (by decide) ?_
  refine cw_fill (k := 1) C hP hD hS (by decide) (by decide) (by decide) (by decide) dX6_init_139 (fun H locs hP hD hS => ?_)
  refine lv_dup hx hb dX6_init_140 rfl ?_
  refine lv_iconst (v := 2) hx hb dX6_init_141 (by decide) ?_
  refine lv_bipush (v := 101) hx hb dX6_init_142 (by decide) ?_
  refine cw_fill (k := 2) C hP hD hS (by decide) (by decide) (by decide) (by decide) dX6_init_144 (fun H locs hP hD hS => ?_)
  refine lv_dup hx hb dX6_init_145 rfl ?_
  refine lv_iconst (v := 3) hx hb dX6_init_146 (by decide) ?_
  refine lv_bipush (v := 115) hx hb dX6_init_147 (by decide) ?_
  refine cw_fill (k := 3) C hP hD hS (by decide) (by decide) (by decide) (by decide) dX6_init_149 (fun H locs hP hD hS => ?_)
  refine lv_dup hx hb dX6_init_150 rfl ?_
  refine lv_iconst (v := 4) hx hb dX6_init_151 (by decide) ?_
  refine lv_bipush (v := 32) hx hb dX6_init_152 (by decide) ?_
  refine cw_fill (k := 4) C hP hD hS (by decide) (by decide) (by decide) (by decide) dX6_init_154 (fun H locs hP hD hS => ?_)
  refine lv_dup hx hb dX6_init_155 rfl ?_
  refine lv_iconst (v := 5) hx hb dX6_init_156 (by decide) ?_
  refine lv_bipush (v := 52) hx hb dX6_init_157 (by decide) ?_
  refine cw_fill (k := 5) C hP hD hS (by decide) (by decide) (by decide) (by decide) dX6_init_159 (fun H locs hP hD hS => ?_)
  refine lv_dup hx hb dX6_init_160 rfl ?_
  refine lv_bipush (v := 6) hx hb dX6_init_161 (by decide) ?_
  refine lv_bipush (v := 32) hx hb dX6_init_163 (by decide) ?_
  refine cw_fill (k := 6) C hP hD hS (by decide) (by decide) (by decide) (by decide) dX6_init_165 (fun H locs hP hD hS => ?_)
  refine lv_dup hx hb dX6_init_166 rfl ?_
  refine lv_bipush (v := 7) hx hb dX6_init_167 (by decide) ?_
  refine lv_bipush (v := 59) hx hb dX6_init_169 (by decide) ?_
  refine cw_fill (k := 7) C hP hD hS (by decide) (by decide) (by decide) (by decide) dX6_init_171 (fun H locs hP hD hS => ?_)
  refine lv_dup hx hb dX6_init_172 rfl ?_
  refine lv_bipush (v := 8) hx hb dX6_init_173 (by decide) ?_
  refine lv_bipush (v := 32) hx hb dX6_init_175 (by decide) ?_
  refine cw_fill (k := 8) C hP hD hS (by decide) (by decide) (by decide) (by decide) dX6_init_177 (fun H locs hP hD hS => ?_)
  refine lv_dup hx hb dX6_init_178 rfl ?_
  refine lv_bipush (v := 9) hx hb dX6_init_179 (by decide) ?_
  refine lv_bipush (v := 109) hx hb dX6_init_181 (by decide) ?_
  refine cw_fill (k := 9) C hP hD hS (by decide) (by decide) (by decide) (by decide) dX6_init_183 (fun H locs hP hD hS => ?_)
  refine lv_dup hx hb dX6_init_184 rfl ?_
  refine lv_bipush (v := 10) hx hb dX6_init_185 (by decide) ?_
  refine lv_bipush (v := 105) hx hb dX6_init_187 (by decide) ?_
  refine cw_fill (k := 10) C hP hD hS (by decide) (by decide) (by decide) (by decide) dX6_init_189 (fun H locs hP hD hS => ?_)
  refine lv_dup hx hb dX6_init_190 rfl ?_
  refine lv_bipush (v := 11) hx hb dX6_init_191 (by decide) ?_
  refine lv_bipush (v := 110) hx hb dX6_init_193 (by decide) ?_
  refine cw_fill (k := 11) C hP hD hS (by decide) (by decide) (by decide) (by decide) dX6_init_195 (fun H locs hP hD hS => ?_)
  refine lv_dup hx hb dX6_init_196 rfl ?_
  refine lv_bipush (v := 12) hx hb dX6_init_197 (by decide) ?_
  refine lv_bipush (v := 100) hx hb dX6_init_199 (by decide) ?_
  refine cw_fill (k := 12) C hP hD hS (by decide) (by decide) (by decide) (by decide) dX6_init_201 (fun H locs hP hD hS => ?_)
  refine lv_dup hx hb dX6_init_202 rfl ?_
  refine lv_bipush (v := 13) hx hb dX6_init_203 (by decide) ?_
  refine lv_bipush (v := 115) hx hb dX6_init_205 (by decide) ?_
  refine cw_fill (k := 13) C hP hD hS (by decide) (by decide) (by decide) (by decide) dX6_init_207 (fun H locs hP hD hS => ?_)
  refine lv_dup hx hb dX6_init_208 rfl ?_
  refine lv_bipush (v := 14) hx hb dX6_init_209 (by decide) ?_
  refine lv_bipush (v := 32) hx hb dX6_init_211 (by decide) ?_
  refine cw_fill (k := 14) C hP hD hS (by decide) (by decide) (by decide) (by decide) dX6_init_213 (fun H locs hP hD hS => ?_)
  refine lv_dup hx hb dX6_init_214 rfl ?_
  refine lv_bipush (v := 15) hx hb dX6_init_215 (by decide) ?_
  refine lv_bipush (v := 119) hx hb dX6_init_217 (by decide) ?_
  refine cw_fill (k := 15) C hP hD hS (by decide) (by decide) (by decide) (by decide) dX6_init_219 (fun H locs hP hD hS => ?_)
  refine lv_dup hx hb dX6_init_220 rfl ?_
  refine lv_bipush (v := 16) hx hb dX6_init_221 (by decide) ?_
  refine lv_bipush (v := 101) hx hb dX6_init_223 (by decide) ?_
  refine cw_fill (k := 16) C hP hD hS (by decide) (by decide) (by decide) (by decide) dX6_init_225 (fun H locs hP hD hS => ?_)
  refine lv_dup hx hb dX6_init_226 rfl ?_
  refine lv_bipush (v := 17) hx hb dX6_init_227 (by decide) ?_
  refine lv_bipush (v := 116) hx hb dX6_init_229 (by decide) ?_
  refine cw_fill (k := 17) C hP hD hS (by decide) (by decide) (by decide) (by decide) dX6_init_231 (fun H locs hP hD hS => ?_)
  refine lv_dup hx hb dX6_init_232 rfl ?_
  refine lv_bipush (v := 18) hx hb dX6_init_233 (by decide) ?_
  refine lv_bipush (v := 32) hx hb dX6_init_235 (by decide) ?_
  refine cw_fill (k := 18) C hP hD hS (by decide) (by decide) (by decide) (by decide) dX6_init_237 (fun H locs hP hD hS => ?_)
  refine lv_dup hx hb dX6_init_238 rfl ?_
  refine lv_bipush (v := 19) hx hb dX6_init_239 (by decide) ?_
  refine lv_bipush (v := 42) hx hb dX6_init_241 (by decide) ?_
  refine cw_fill (k := 19) C hP hD hS (by decide) (by decide) (by decide) (by decide) dX6_init_243 (fun H locs hP hD hS => ?_)
  refine lv_dup hx hb dX6_init_244 rfl ?_
  refine lv_bipush (v := 20) hx hb dX6_init_245 (by decide) ?_
  refine lv_bipush (v := 32) hx hb dX6_init_247 (by decide) ?_
  refine cw_fill (k := 20) C hP hD hS (by decide) (by decide) (by decide) (by decide) dX6_init_249 (fun H locs hP hD hS => ?_)
  refine lv_dup hx hb dX6_init_250 rfl ?_
  refine lv_bipush (v := 21) hx hb dX6_init_251 (by decide) ?_
  refine lv_bipush (v := 50) hx hb dX6_init_253 (by decide) ?_
  refine cw_fill (k := 21) C hP hD hS (by decide) (by decide) (by decide) (by decide) dX6_init_255 (fun H locs hP hD hS => ?_)
  refine lv_dup hx hb dX6_init_256 rfl ?_
  refine lv_bipush (v := 22) hx hb dX6_init_257 (by decide) ?_
  refine lv_bipush (v := 32) hx hb dX6_init_259 (by decide) ?_
  refine cw_fill (k := 22) C hP hD hS (by decide) (by decide) (by decide) (by decide) dX6_init_261 (fun H locs hP hD hS => ?_)
  refine lv_dup hx hb dX6_init_262 rfl ?_
  refine lv_bipush (v := 23) hx hb dX6_init_263 (by decide) ?_
  refine lv_bipush (v := 59) hx hb dX6_init_265 (by decide) ?_
  refine cw_fill (k := 23) C hP hD hS (by decide) (by decide) (by decide) (by decide) dX6_init_267 (fun H locs hP hD hS => ?_)
  refine lv_dup hx hb dX6_init_268 rfl ?_
  refine lv_bipush (v := 24) hx hb dX6_init_269 (by decide) ?_
  refine lv_bipush (v := 32) hx hb dX6_init_271 (by decide) ?_
  refine cw_fill (k := 24) C hP hD hS (by decide) (by decide) (by decide) (by decide) dX6_init_273 (fun H locs hP hD hS => ?_)
  refine lv_dup hx hb dX6_init_274 rfl ?_
  refine lv_bipush (v := 25) hx hb dX6_init_275 (by decide) ?_
  refine lv_bipush (v := 119) hx hb dX6_init_277 (by decide) ?_
  refine cw_fill (k := 25) C hP hD hS (by decide) (by decide) (by decide) (by decide) dX6_init_279 (fun H locs hP hD hS => ?_)
  refine lv_dup hx hb dX6_init_280 rfl ?_
  refine lv_bipush (v := 26) hx hb dX6_init_281 (by decide) ?_
  refine lv_bipush (v := 101) hx hb dX6_init_283 (by decide) ?_
  refine cw_fill (k := 26) C hP hD hS (by decide) (by decide) (by decide) (by decide) dX6_init_285 (fun H locs hP hD hS => ?_)
  refine lv_dup hx hb dX6_init_286 rfl ?_
  refine lv_bipush (v := 27) hx hb dX6_init_287 (by decide) ?_
  refine lv_bipush (v := 97) hx hb dX6_init_289 (by decide) ?_
  refine cw_fill (k := 27) C hP hD hS (by decide) (by decide) (by decide) (by decide) dX6_init_291 (fun H locs hP hD hS => ?_)
  refine lv_dup hx hb dX6_init_292 rfl ?_
  refine lv_bipush (v := 28) hx hb dX6_init_293 (by decide) ?_
  refine lv_bipush (v := 114) hx hb dX6_init_295 (by decide) ?_
  refine cw_fill (k := 28) C hP hD hS (by decide) (by decide) (by decide) (by decide) dX6_init_297 (fun H locs hP hD hS => ?_)
  refine lv_dup hx hb dX6_init_298 rfl ?_
  refine lv_bipush (v := 29) hx hb dX6_init_299 (by decide) ?_
  refine lv_bipush (v := 115) hx hb dX6_init_301 (by decide) ?_
  refine cw_fill (k := 29) C hP hD hS (by decide) (by decide) (by decide) (by decide) dX6_init_303 (fun H locs hP hD hS => ?_)
  refine lv_dup hx hb dX6_init_304 rfl ?_
  refine lv_bipush (v := 30) hx hb dX6_init_305 (by decide) ?_
  refine lv_bipush (v := 32) hx hb dX6_init_307 (by decide) ?_
  refine cw_fill (k := 30) C hP hD hS (by decide) (by decide) (by decide) (by decide) dX6_init_309 (fun H locs hP hD hS => ?_)
  refine lv_dup hx hb dX6_init_310 rfl ?_
  refine lv_bipush (v := 31) hx hb dX6_init_311 (by decide) ?_
  refine lv_bipush (v := 49) hx hb dX6_init_313 (by decide) ?_
  refine cw_fill (k := 31) C hP hD hS (by decide) (by decide) (by decide) (by decide) dX6_init_315 (fun H locs hP hD hS => ?_)
  refine lv_dup hx hb dX6_init_316 rfl ?_
  refine lv_bipush (v := 32) hx hb dX6_init_317 (by decide) ?_
  refine lv_bipush (v := 32) hx hb dX6_init_319 (by decide) ?_
  refine cw_fill (k := 32) C hP hD hS (by decide) (by decide) (by decide) (by decide) dX6_init_321 (fun H locs hP hD hS => ?_)
  refine lv_dup hx hb dX6_init_322 rfl ?_
  refine lv_bipush (v := 33) hx hb dX6_init_323 (by decide) ?_
  refine lv_bipush (v := 59) hx hb dX6_init_325 (by decide) ?_
  refine cw_fill (k := 33) C hP hD hS (by decide) (by decide) (by decide) (by decide) dX6_init_327 (fun H locs hP hD hS => ?_)
  refine va_putF (D := D) (ci := 6) (v := .ref q14) (C := RX6) (T := TX6) (N := 37) hx hb hts inT6 tyX6 tyX6_ok nmX6 hown hK hP hD hS 1 rfl rfl 21 (by decide) (hts _ wd_903) (fun _ h9 => h9) rfl hin rfl (tyX6_ok 21 (by decide)) rfl rfl (Nat.le_of_ble_eq_true rfl) dX6_init_328 (fun H locs hP hD hS => ?_)
  replace hP : va_P D vwCl ((q14, .inl (cy 0, 34, .inl (filF (fun k => nI (lawB k)) 34))) :: (h0, .inr (6, [.int 0, .ref q1, .ref q2, .ref q3, .ref q4, .ref q5, .long 0, .int 0, .ref q6, .int 0, .ref q7, .ref q8, .int 0, .int 0, .int 0, .ref q9, .long 0, .ref q10, .ref q11, .ref q12, .ref q13, .ref q14, .int 0, .int 0, .int 0, .int 0, .null, .null, .int 0, .int 0, .int 0, .null, .null, .null, .int 0, .null, .int 0])) :: (q13, .inl (cy 0, 160, .inl (fun _ => 0))) :: (q12, .inl (cy 0, 4, .inl (fun _ => 0))) :: (q11, .inl (cy 0, 4, .inl (filF (fun _ => (-1 : Int32)) 4))) :: (q10, .inl (cy 0, 3, .inl (fun _ => 0))) :: (q9, .inl (cy 0, 132, .inl (fun _ => 0))) :: (q8, .inl (cy 0, 24, .inl (fun _ => 0))) :: (q7, .inl (cy 0, 1200, .inl (fun _ => 0))) :: (q6, .inl (cy 0, 160, .inl (fun _ => 0))) :: (q5, .inl (cy 0, 6, .inl (fun _ => 0))) :: (q4, .inl (cy 0, 96, .inl (fun _ => 0))) :: (q3, .inl (cy 0, 30, .inl (fun _ => 0))) :: (q2, .inl (cy 0, 6, .inl (fun _ => 0))) :: (q1, .inl (cy 0, 6, .inl (fun _ => 0))) :: []) H := hP
  replace hD : va_D A ((q14, .inl (cy 0, 34, .inl (filF (fun k => nI (lawB k)) 34))) :: (h0, .inr (6, [.int 0, .ref q1, .ref q2, .ref q3, .ref q4, .ref q5, .long 0, .int 0, .ref q6, .int 0, .ref q7, .ref q8, .int 0, .int 0, .int 0, .ref q9, .long 0, .ref q10, .ref q11, .ref q12, .ref q13, .ref q14, .int 0, .int 0, .int 0, .int 0, .null, .null, .int 0, .int 0, .int 0, .null, .null, .null, .int 0, .null, .int 0])) :: (q13, .inl (cy 0, 160, .inl (fun _ => 0))) :: (q12, .inl (cy 0, 4, .inl (fun _ => 0))) :: (q11, .inl (cy 0, 4, .inl (filF (fun _ => (-1 : Int32)) 4))) :: (q10, .inl (cy 0, 3, .inl (fun _ => 0))) :: (q9, .inl (cy 0, 132, .inl (fun _ => 0))) :: (q8, .inl (cy 0, 24, .inl (fun _ => 0))) :: (q7, .inl (cy 0, 1200, .inl (fun _ => 0))) :: (q6, .inl (cy 0, 160, .inl (fun _ => 0))) :: (q5, .inl (cy 0, 6, .inl (fun _ => 0))) :: (q4, .inl (cy 0, 96, .inl (fun _ => 0))) :: (q3, .inl (cy 0, 30, .inl (fun _ => 0))) :: (q2, .inl (cy 0, 6, .inl (fun _ => 0))) :: (q1, .inl (cy 0, 6, .inl (fun _ => 0))) :: []) := hD
  replace hP : va_P D vwCl ((h0, .inr (6, [.int 0, .ref q1, .ref q2, .ref q3, .ref q4, .ref q5, .long 0, .int 0, .ref q6, .int 0, .ref q7, .ref q8, .int 0, .int 0, .int 0, .ref q9, .long 0, .ref q10, .ref q11, .ref q12, .ref q13, .ref q14, .int 0, .int 0, .int 0, .int 0, .null, .null, .int 0, .int 0, .int 0, .null, .null, .null, .int 0, .null, .int 0])) :: (q14, .inl (cy 0, 34, .inl (filF (fun k => nI (lawB k)) 34))) :: (q13, .inl (cy 0, 160, .inl (fun _ => 0))) :: (q12, .inl (cy 0, 4, .inl (fun _ => 0))) :: (q11, .inl (cy 0, 4, .inl (filF (fun _ => (-1 : Int32)) 4))) :: (q10, .inl (cy 0, 3, .inl (fun _ => 0))) :: (q9, .inl (cy 0, 132, .inl (fun _ => 0))) :: (q8, .inl (cy 0, 24, .inl (fun _ => 0))) :: (q7, .inl (cy 0, 1200, .inl (fun _ => 0))) :: (q6, .inl (cy 0, 160, .inl (fun _ => 0))) :: (q5, .inl (cy 0, 6, .inl (fun _ => 0))) :: (q4, .inl (cy 0, 96, .inl (fun _ => 0))) :: (q3, .inl (cy 0, 30, .inl (fun _ => 0))) :: (q2, .inl (cy 0, 6, .inl (fun _ => 0))) :: (q1, .inl (cy 0, 6, .inl (fun _ => 0))) :: []) H := swp_P (a := [(q14, .inl (cy 0, 34, .inl (filF (fun k => nI (lawB k)) 34)))]) (b := [(h0, .inr (6, [.int 0, .ref q1, .ref q2, .ref q3, .ref q4, .ref q5, .long 0, .int 0, .ref q6, .int 0, .ref q7, .ref q8, .int 0, .int 0, .int 0, .ref q9, .long 0, .ref q10, .ref q11, .ref q12, .ref q13, .ref q14, .int 0, .int 0, .int 0, .int 0, .null, .null, .int 0, .int 0, .int 0, .null, .null, .null, .int 0, .null, .int 0]))]) hP
  replace hD : va_D A ((h0, .inr (6, [.int 0, .ref q1, .ref q2, .ref q3, .ref q4, .ref q5, .long 0, .int 0, .ref q6, .int 0, .ref q7, .ref q8, .int 0, .int 0, .int 0, .ref q9, .long 0, .ref q10, .ref q11, .ref q12, .ref q13, .ref q14, .int 0, .int 0, .int 0, .int 0, .null, .null, .int 0, .int 0, .int 0, .null, .null, .null, .int 0, .null, .int 0])) :: (q14, .inl (cy 0, 34, .inl (filF (fun k => nI (lawB k)) 34))) :: (q13, .inl (cy 0, 160, .inl (fun _ => 0))) :: (q12, .inl (cy 0, 4, .inl (fun _ => 0))) :: (q11, .inl (cy 0, 4, .inl (filF (fun _ => (-1 : Int32)) 4))) :: (q10, .inl (cy 0, 3, .inl (fun _ => 0))) :: (q9, .inl (cy 0, 132, .inl (fun _ => 0))) :: (q8, .inl (cy 0, 24, .inl (fun _ => 0))) :: (q7, .inl (cy 0, 1200, .inl (fun _ => 0))) :: (q6, .inl (cy 0, 160, .inl (fun _ => 0))) :: (q5, .inl (cy 0, 6, .inl (fun _ => 0))) :: (q4, .inl (cy 0, 96, .inl (fun _ => 0))) :: (q3, .inl (cy 0, 30, .inl (fun _ => 0))) :: (q2, .inl (cy 0, 6, .inl (fun _ => 0))) :: (q1, .inl (cy 0, 6, .inl (fun _ => 0))) :: []) := swp_D (a := [(q14, .inl (cy 0, 34, .inl (filF (fun k => nI (lawB k)) 34)))]) (b := [(h0, .inr (6, [.int 0, .ref q1, .ref q2, .ref q3, .ref q4, .ref q5, .long 0, .int 0, .ref q6, .int 0, .ref q7, .ref q8, .int 0, .int 0, .int 0, .ref q9, .long 0, .ref q10, .ref q11, .ref q12, .ref q13, .ref q14, .int 0, .int 0, .int 0, .int 0, .null, .null, .int 0, .int 0, .int 0, .null, .null, .null, .int 0, .null, .int 0]))]) hD
  refine lv_aload_n hx hb dX6_init_331 rfl (lv_at hl 0 rfl) ?_
  refine lv_bipush (v := 96) hx hb dX6_init_332 (by decide) ?_
  refine cw_ni C hP hD hS (N := 96) rfl (by decide) (Nat.le_of_ble_eq_true rfl) (Nat.le_of_ble_eq_true rfl) dX6_init_334 (fun q15 H hP hD hS => ?_)
  refine W.widen (k := 15) (n := 1961) (Nat.le_of_ble_eq_true rfl) (Nat.le_of_ble_eq_true rfl) ?_
  replace hP : va_P D vwCl ((q15, .inl (cy 0, 96, .inl (filF (fun k => nI (wtab.getD k 0)) 0))) :: (h0, .inr (6, [.int 0, .ref q1, .ref q2, .ref q3, .ref q4, .ref q5, .long 0, .int 0, .ref q6, .int 0, .ref q7, .ref q8, .int 0, .int 0, .int 0, .ref q9, .long 0, .ref q10, .ref q11, .ref q12, .ref q13, .ref q14, .int 0, .int 0, .int 0, .int 0, .null, .null, .int 0, .int 0, .int 0, .null, .null, .null, .int 0, .null, .int 0])) :: (q14, .inl (cy 0, 34, .inl (filF (fun k => nI (lawB k)) 34))) :: (q13, .inl (cy 0, 160, .inl (fun _ => 0))) :: (q12, .inl (cy 0, 4, .inl (fun _ => 0))) :: (q11, .inl (cy 0, 4, .inl (filF (fun _ => (-1 : Int32)) 4))) :: (q10, .inl (cy 0, 3, .inl (fun _ => 0))) :: (q9, .inl (cy 0, 132, .inl (fun _ => 0))) :: (q8, .inl (cy 0, 24, .inl (fun _ => 0))) :: (q7, .inl (cy 0, 1200, .inl (fun _ => 0))) :: (q6, .inl (cy 0, 160, .inl (fun _ => 0))) :: (q5, .inl (cy 0, 6, .inl (fun _ => 0))) :: (q4, .inl (cy 0, 96, .inl (fun _ => 0))) :: (q3, .inl (cy 0, 30, .inl (fun _ => 0))) :: (q2, .inl (cy 0, 6, .inl (fun _ => 0))) :: (q1, .inl (cy 0, 6, .inl (fun _ => 0))) :: []) H := va_P.ri hP (fun k _ => (if_neg (Nat.not_lt_zero k)).symm)
  replace hD : va_D A ((q15, .inl (cy 0, 96, .inl (filF (fun k => nI (wtab.getD k 0)) 0))) :: (h0, .inr (6, [.int 0, .ref q1, .ref q2, .ref q3, .ref q4, .ref q5, .long 0, .int 0, .ref q6, .int 0, .ref q7, .ref q8, .int 0, .int 0, .int 0, .ref q9, .long 0, .ref q10, .ref q11, .ref q12, .ref q13, .ref q14, .int 0, .int 0, .int 0, .int 0, .null, .null, .int 0, .int 0, .int 0, .null, .null, .null, .int 0, .null, .int 0])) :: (q14, .inl (cy 0, 34, .inl (filF (fun k => nI (lawB k)) 34))) :: (q13, .inl (cy 0, 160, .inl (fun _ => 0))) :: (q12, .inl (cy 0, 4, .inl (fun _ => 0))) :: (q11, .inl (cy 0, 4, .inl (filF (fun _ => (-1 : Int32)) 4))) :: (q10, .inl (cy 0, 3, .inl (fun _ => 0))) :: (q9, .inl (cy 0, 132, .inl (fun _ => 0))) :: (q8, .inl (cy 0, 24, .inl (fun _ => 0))) :: (q7, .inl (cy 0, 1200, .inl (fun _ => 0))) :: (q6, .inl (cy 0, 160, .inl (fun _ => 0))) :: (q5, .inl (cy 0, 6, .inl (fun _ => 0))) :: (q4, .inl (cy 0, 96, .inl (fun _ => 0))) :: (q3, .inl (cy 0, 30, .inl (fun _ => 0))) :: (q2, .inl (cy 0, 6, .inl (fun _ => 0))) :: (q1, .inl (cy 0, 6, .inl (fun _ => 0))) :: []) := va_D.re hD rfl
  refine lv_dup hx hb dX6_init_336 rfl ?_
  refine lv_iconst (v := 0) hx hb dX6_init_337 (by decide) ?_
  refine lv_bipush (v := 103) hx hb dX6_init_338 (by decide) ?_
  refine cw_fill (k := 0) C hP hD hS (by decide) (by decide) (by decide) (by decide) dX6_init_340 (fun H locs hP hD hS => ?_)
  refine lv_dup hx hb dX6_init_341 rfl ?_
  refine lv_iconst (v := 1) hx hb dX6_init_342 (by decide) ?_
  refine lv_bipush (v := 111) hx hb dX6_init_343 (by decide) ?_
  refine cw_fill (k := 1) C hP hD hS (by decide) (by decide) (by decide) (by decide) dX6_init_345 (fun H locs hP hD hS => ?_)
  refine lv_dup hx hb dX6_init_346 rfl ?_
  refine lv_iconst (v := 2) hx hb dX6_init_347 (by decide) ?_
  refine lv_bipush (v := 101) hx hb dX6_init_348 (by decide) ?_
  refine cw_fill (k := 2) C hP hD hS (by decide) (by decide) (by decide) (by decide) dX6_init_350 (fun H locs hP hD hS => ?_)
  refine lv_dup hx hb dX6_init_351 rfl ?_
  refine lv_iconst (v := 3) hx hb dX6_init_352 (by decide) ?_
  refine lv_bipush (v := 115) hx hb dX6_init_353 (by decide) ?_
  refine cw_fill (k := 3) C hP hD hS (by decide) (by decide) (by decide) (by decide) dX6_init_355 (fun H locs hP hD hS => ?_)
  refine lv_dup hx hb dX6_init_356 rfl ?_
  refine lv_iconst (v := 4) hx hb dX6_init_357 (by decide) ?_
  refine lv_bipush (v := 32) hx hb dX6_init_358 (by decide) ?_
  refine cw_fill (k := 4) C hP hD hS (by decide) (by decide) (by decide) (by decide) dX6_init_360 (fun H locs hP hD hS => ?_)
  refine lv_dup hx hb dX6_init_361 rfl ?_
  refine lv_iconst (v := 5) hx hb dX6_init_362 (by decide) ?_
  refine lv_bipush (v := 32) hx hb dX6_init_363 (by decide) ?_
  refine cw_fill (k := 5) C hP hD hS (by decide) (by decide) (by decide) (by decide) dX6_init_365 (fun H locs hP hD hS => ?_)
  refine lv_dup hx hb dX6_init_366 rfl ?_
  refine lv_bipush (v := 6) hx hb dX6_init_367 (by decide) ?_
  refine lv_bipush (v := 32) hx hb dX6_init_369 (by decide) ?_
  refine cw_fill (k := 6) C hP hD hS (by decide) (by decide) (by decide) (by decide) dX6_init_371 (fun H locs hP hD hS => ?_)
  refine lv_dup hx hb dX6_init_372 rfl ?_
  refine lv_bipush (v := 7) hx hb dX6_init_373 (by decide) ?_
  refine lv_bipush (v := 32) hx hb dX6_init_375 (by decide) ?_
  refine cw_fill (k := 7) C hP hD hS (by decide) (by decide) (by decide) (by decide) dX6_init_377 (fun H locs hP hD hS => ?_)
  refine lv_dup hx hb dX6_init_378 rfl ?_
  refine lv_bipush (v := 8) hx hb dX6_init_379 (by decide) ?_
  refine lv_bipush (v := 109) hx hb dX6_init_381 (by decide) ?_
  refine cw_fill (k := 8) C hP hD hS (by decide) (by decide) (by decide) (by decide) dX6_init_383 (fun H locs hP hD hS => ?_)
  refine lv_dup hx hb dX6_init_384 rfl ?_
  refine lv_bipush (v := 9) hx hb dX6_init_385 (by decide) ?_
  refine lv_bipush (v := 105) hx hb dX6_init_387 (by decide) ?_
  refine cw_fill (k := 9) C hP hD hS (by decide) (by decide) (by decide) (by decide) dX6_init_389 (fun H locs hP hD hS => ?_)
  refine lv_dup hx hb dX6_init_390 rfl ?_
  refine lv_bipush (v := 10) hx hb dX6_init_391 (by decide) ?_
  refine lv_bipush (v := 110) hx hb dX6_init_393 (by decide) ?_
  refine cw_fill (k := 10) C hP hD hS (by decide) (by decide) (by decide) (by decide) dX6_init_395 (fun H locs hP hD hS => ?_)
  refine lv_dup hx hb dX6_init_396 rfl ?_
  refine lv_bipush (v := 11) hx hb dX6_init_397 (by decide) ?_
  refine lv_bipush (v := 100) hx hb dX6_init_399 (by decide) ?_
  refine cw_fill (k := 11) C hP hD hS (by decide) (by decide) (by decide) (by decide) dX6_init_401 (fun H locs hP hD hS => ?_)
  refine lv_dup hx hb dX6_init_402 rfl ?_
  refine lv_bipush (v := 12) hx hb dX6_init_403 (by decide) ?_
  refine lv_bipush (v := 115) hx hb dX6_init_405 (by decide) ?_
  refine cw_fill (k := 12) C hP hD hS (by decide) (by decide) (by decide) (by decide) dX6_init_407 (fun H locs hP hD hS => ?_)
  refine lv_dup hx hb dX6_init_408 rfl ?_
  refine lv_bipush (v := 13) hx hb dX6_init_409 (by decide) ?_
  refine lv_bipush (v := 32) hx hb dX6_init_411 (by decide) ?_
  refine cw_fill (k := 13) C hP hD hS (by decide) (by decide) (by decide) (by decide) dX6_init_413 (fun H locs hP hD hS => ?_)
  refine lv_dup hx hb dX6_init_414 rfl ?_
  refine lv_bipush (v := 14) hx hb dX6_init_415 (by decide) ?_
  refine lv_bipush (v := 32) hx hb dX6_init_417 (by decide) ?_
  refine cw_fill (k := 14) C hP hD hS (by decide) (by decide) (by decide) (by decide) dX6_init_419 (fun H locs hP hD hS => ?_)
  refine lv_dup hx hb dX6_init_420 rfl ?_
  refine lv_bipush (v := 15) hx hb dX6_init_421 (by decide) ?_
  refine lv_bipush (v := 32) hx hb dX6_init_423 (by decide) ?_
  refine cw_fill (k := 15) C hP hD hS (by decide) (by decide) (by decide) (by decide) dX6_init_425 (fun H locs hP hD hS => ?_)
  refine lv_dup hx hb dX6_init_426 rfl ?_
  refine lv_bipush (v := 16) hx hb dX6_init_427 (by decide) ?_
  refine lv_bipush (v := 119) hx hb dX6_init_429 (by decide) ?_
  refine cw_fill (k := 16) C hP hD hS (by decide) (by decide) (by decide) (by decide) dX6_init_431 (fun H locs hP hD hS => ?_)
  refine lv_dup hx hb dX6_init_432 rfl ?_
  refine lv_bipush (v := 17) hx hb dX6_init_433 (by decide) ?_
  refine lv_bipush (v := 101) hx hb dX6_init_435 (by decide) ?_
  refine cw_fill (k := 17) C hP hD hS (by decide) (by decide) (by decide) (by decide) dX6_init_437 (fun H locs hP hD hS => ?_)
  refine lv_dup hx hb dX6_init_438 rfl ?_
  refine lv_bipush (v := 18) hx hb dX6_init_439 (by decide) ?_
  refine lv_bipush (v := 97) hx hb dX6_init_441 (by decide) ?_
  refine cw_fill (k := 18) C hP hD hS (by decide) (by decide) (by decide) (by decide) dX6_init_443 (fun H locs hP hD hS => ?_)
  refine lv_dup hx hb dX6_init_444 rfl ?_
  refine lv_bipush (v := 19) hx hb dX6_init_445 (by decide) ?_
  refine lv_bipush (v := 114) hx hb dX6_init_447 (by decide) ?_
  refine cw_fill (k := 19) C hP hD hS (by decide) (by decide) (by decide) (by decide) dX6_init_449 (fun H locs hP hD hS => ?_)
  refine lv_dup hx hb dX6_init_450 rfl ?_
  refine lv_bipush (v := 20) hx hb dX6_init_451 (by decide) ?_
  refine lv_bipush (v := 115) hx hb dX6_init_453 (by decide) ?_
  refine cw_fill (k := 20) C hP hD hS (by decide) (by decide) (by decide) (by decide) dX6_init_455 (fun H locs hP hD hS => ?_)
  refine lv_dup hx hb dX6_init_456 rfl ?_
  refine lv_bipush (v := 21) hx hb dX6_init_457 (by decide) ?_
  refine lv_bipush (v := 32) hx hb dX6_init_459 (by decide) ?_
  refine cw_fill (k := 21) C hP hD hS (by decide) (by decide) (by decide) (by decide) dX6_init_461 (fun H locs hP hD hS => ?_)
  refine lv_dup hx hb dX6_init_462 rfl ?_
  refine lv_bipush (v := 22) hx hb dX6_init_463 (by decide) ?_
  refine lv_bipush (v := 32) hx hb dX6_init_465 (by decide) ?_
  refine cw_fill (k := 22) C hP hD hS (by decide) (by decide) (by decide) (by decide) dX6_init_467 (fun H locs hP hD hS => ?_)
  refine lv_dup hx hb dX6_init_468 rfl ?_
  refine lv_bipush (v := 23) hx hb dX6_init_469 (by decide) ?_
  refine lv_bipush (v := 32) hx hb dX6_init_471 (by decide) ?_
  refine cw_fill (k := 23) C hP hD hS (by decide) (by decide) (by decide) (by decide) dX6_init_473 (fun H locs hP hD hS => ?_)
  refine lv_dup hx hb dX6_init_474 rfl ?_
  refine lv_bipush (v := 24) hx hb dX6_init_475 (by decide) ?_
  refine lv_bipush (v := 115) hx hb dX6_init_477 (by decide) ?_
  refine cw_fill (k := 24) C hP hD hS (by decide) (by decide) (by decide) (by decide) dX6_init_479 (fun H locs hP hD hS => ?_)
  refine lv_dup hx hb dX6_init_480 rfl ?_
  refine lv_bipush (v := 25) hx hb dX6_init_481 (by decide) ?_
  refine lv_bipush (v := 116) hx hb dX6_init_483 (by decide) ?_
  refine cw_fill (k := 25) C hP hD hS (by decide) (by decide) (by decide) (by decide) dX6_init_485 (fun H locs hP hD hS => ?_)
  refine lv_dup hx hb dX6_init_486 rfl ?_
  refine lv_bipush (v := 26) hx hb dX6_init_487 (by decide) ?_
  refine lv_bipush (v := 105) hx hb dX6_init_489 (by decide) ?_
  refine cw_fill (k := 26) C hP hD hS (by decide) (by decide) (by decide) (by decide) dX6_init_491 (fun H locs hP hD hS => ?_)
  refine lv_dup hx hb dX6_init_492 rfl ?_
  refine lv_bipush (v := 27) hx hb dX6_init_493 (by decide) ?_
  refine lv_bipush (v := 116) hx hb dX6_init_495 (by decide) ?_
  refine cw_fill (k := 27) C hP hD hS (by decide) (by decide) (by decide) (by decide) dX6_init_497 (fun H locs hP hD hS => ?_)
  refine lv_dup hx hb dX6_init_498 rfl ?_
  refine lv_bipush (v := 28) hx hb dX6_init_499 (by decide) ?_
  refine lv_bipush (v := 99) hx hb dX6_init_501 (by decide) ?_
  refine cw_fill (k := 28) C hP hD hS (by decide) (by decide) (by decide) (by decide) dX6_init_503 (fun H locs hP hD hS => ?_)
  refine lv_dup hx hb dX6_init_504 rfl ?_
  refine lv_bipush (v := 29) hx hb dX6_init_505 (by decide) ?_
  refine lv_bipush (v := 104) hx hb dX6_init_507 (by decide) ?_
  refine cw_fill (k := 29) C hP hD hS (by decide) (by decide) (by decide) (by decide) dX6_init_509 (fun H locs hP hD hS => ?_)
  refine lv_dup hx hb dX6_init_510 rfl ?_
  refine lv_bipush (v := 30) hx hb dX6_init_511 (by decide) ?_
  refine lv_bipush (v := 32) hx hb dX6_init_513 (by decide) ?_
  refine cw_fill (k := 30) C hP hD hS (by decide) (by decide) (by decide) (by decide) dX6_init_515 (fun H locs hP hD hS => ?_)
  refine lv_dup hx hb dX6_init_516 rfl ?_
  refine lv_bipush (v := 31) hx hb dX6_init_517 (by decide) ?_
  refine lv_bipush (v := 32) hx hb dX6_init_519 (by decide) ?_
  refine cw_fill (k := 31) C hP hD hS (by decide) (by decide) (by decide) (by decide) dX6_init_521 (fun H locs hP hD hS => ?_)
  refine lv_dup hx hb dX6_init_522 rfl ?_
  refine lv_bipush (v := 32) hx hb dX6_init_523 (by decide) ?_
  refine lv_bipush (v := 99) hx hb dX6_init_525 (by decide) ?_
  refine cw_fill (k := 32) C hP hD hS (by decide) (by decide) (by decide) (by decide) dX6_init_527 (fun H locs hP hD hS => ?_)
  refine lv_dup hx hb dX6_init_528 rfl ?_
  refine lv_bipush (v := 33) hx hb dX6_init_529 (by decide) ?_
  refine lv_bipush (v := 111) hx hb dX6_init_531 (by decide) ?_
  refine cw_fill (k := 33) C hP hD hS (by decide) (by decide) (by decide) (by decide) dX6_init_533 (fun H locs hP hD hS => ?_)
  refine lv_dup hx hb dX6_init_534 rfl ?_
  refine lv_bipush (v := 34) hx hb dX6_init_535 (by decide) ?_
  refine lv_bipush (v := 108) hx hb dX6_init_537 (by decide) ?_
  refine cw_fill (k := 34) C hP hD hS (by decide) (by decide) (by decide) (by decide) dX6_init_539 (fun H locs hP hD hS => ?_)
  refine lv_dup hx hb dX6_init_540 rfl ?_
  refine lv_bipush (v := 35) hx hb dX6_init_541 (by decide) ?_
  refine lv_bipush (v := 117) hx hb dX6_init_543 (by decide) ?_
  refine cw_fill (k := 35) C hP hD hS (by decide) (by decide) (by decide) (by decide) dX6_init_545 (fun H locs hP hD hS => ?_)
  refine lv_dup hx hb dX6_init_546 rfl ?_
  refine lv_bipush (v := 36) hx hb dX6_init_547 (by decide) ?_
  refine lv_bipush (v := 109) hx hb dX6_init_549 (by decide) ?_
  refine cw_fill (k := 36) C hP hD hS (by decide) (by decide) (by decide) (by decide) dX6_init_551 (fun H locs hP hD hS => ?_)
  refine lv_dup hx hb dX6_init_552 rfl ?_
  refine lv_bipush (v := 37) hx hb dX6_init_553 (by decide) ?_
  refine lv_bipush (v := 110) hx hb dX6_init_555 (by decide) ?_
  refine cw_fill (k := 37) C hP hD hS (by decide) (by decide) (by decide) (by decide) dX6_init_557 (fun H locs hP hD hS => ?_)
  refine lv_dup hx hb dX6_init_558 rfl ?_
  refine lv_bipush (v := 38) hx hb dX6_init_559 (by decide) ?_
  refine lv_bipush (v := 32) hx hb dX6_init_561 (by decide) ?_
  refine cw_fill (k := 38) C hP hD hS (by decide) (by decide) (by decide) (by decide) dX6_init_563 (fun H locs hP hD hS => ?_)
  refine lv_dup hx hb dX6_init_564 rfl ?_
  refine lv_bipush (v := 39) hx hb dX6_init_565 (by decide) ?_
  refine lv_bipush (v := 32) hx hb dX6_init_567 (by decide) ?_
  refine cw_fill (k := 39) C hP hD hS (by decide) (by decide) (by decide) (by decide) dX6_init_569 (fun H locs hP hD hS => ?_)
  refine lv_dup hx hb dX6_init_570 rfl ?_
  refine lv_bipush (v := 40) hx hb dX6_init_571 (by decide) ?_
  refine lv_bipush (v := 114) hx hb dX6_init_573 (by decide) ?_
  refine cw_fill (k := 40) C hP hD hS (by decide) (by decide) (by decide) (by decide) dX6_init_575 (fun H locs hP hD hS => ?_)
  refine lv_dup hx hb dX6_init_576 rfl ?_
  refine lv_bipush (v := 41) hx hb dX6_init_577 (by decide) ?_
  refine lv_bipush (v := 111) hx hb dX6_init_579 (by decide) ?_
  refine cw_fill (k := 41) C hP hD hS (by decide) (by decide) (by decide) (by decide) dX6_init_581 (fun H locs hP hD hS => ?_)
  refine lv_dup hx hb dX6_init_582 rfl ?_
  refine lv_bipush (v := 42) hx hb dX6_init_583 (by decide) ?_
  refine lv_bipush (v := 119) hx hb dX6_init_585 (by decide) ?_
  refine cw_fill (k := 42) C hP hD hS (by decide) (by decide) (by decide) (by decide) dX6_init_587 (fun H locs hP hD hS => ?_)
  refine lv_dup hx hb dX6_init_588 rfl ?_
  refine lv_bipush (v := 43) hx hb dX6_init_589 (by decide) ?_
  refine lv_bipush (v := 32) hx hb dX6_init_591 (by decide) ?_
  refine cw_fill (k := 43) C hP hD hS (by decide) (by decide) (by decide) (by decide) dX6_init_593 (fun H locs hP hD hS => ?_)
  refine lv_dup hx hb dX6_init_594 rfl ?_
  refine lv_bipush (v := 44) hx hb dX6_init_595 (by decide) ?_
  refine lv_bipush (v := 32) hx hb dX6_init_597 (by decide) ?_
  refine cw_fill (k := 44) C hP hD hS (by decide) (by decide) (by decide) (by decide) dX6_init_599 (fun H locs hP hD hS => ?_)
  refine lv_dup hx hb dX6_init_600 rfl ?_
  refine lv_bipush (v := 45) hx hb dX6_init_601 (by decide) ?_
  refine lv_bipush (v := 32) hx hb dX6_init_603 (by decide) ?_
  refine cw_fill (k := 45) C hP hD hS (by decide) (by decide) (by decide) (by decide) dX6_init_605 (fun H locs hP hD hS => ?_)
  refine lv_dup hx hb dX6_init_606 rfl ?_
  refine lv_bipush (v := 46) hx hb dX6_init_607 (by decide) ?_
  refine lv_bipush (v := 32) hx hb dX6_init_609 (by decide) ?_
  refine cw_fill (k := 46) C hP hD hS (by decide) (by decide) (by decide) (by decide) dX6_init_611 (fun H locs hP hD hS => ?_)
  refine lv_dup hx hb dX6_init_612 rfl ?_
  refine lv_bipush (v := 47) hx hb dX6_init_613 (by decide) ?_
  refine lv_bipush (v := 32) hx hb dX6_init_615 (by decide) ?_
  refine cw_fill (k := 47) C hP hD hS (by decide) (by decide) (by decide) (by decide) dX6_init_617 (fun H locs hP hD hS => ?_)
  refine lv_dup hx hb dX6_init_618 rfl ?_
  refine lv_bipush (v := 48) hx hb dX6_init_619 (by decide) ?_
  refine lv_bipush (v := 119) hx hb dX6_init_621 (by decide) ?_
  refine cw_fill (k := 48) C hP hD hS (by decide) (by decide) (by decide) (by decide) dX6_init_623 (fun H locs hP hD hS => ?_)
  refine lv_dup hx hb dX6_init_624 rfl ?_
  refine lv_bipush (v := 49) hx hb dX6_init_625 (by decide) ?_
  refine lv_bipush (v := 101) hx hb dX6_init_627 (by decide) ?_
  refine cw_fill (k := 49) C hP hD hS (by decide) (by decide) (by decide) (by decide) dX6_init_629 (fun H locs hP hD hS => ?_)
  refine lv_dup hx hb dX6_init_630 rfl ?_
  refine lv_bipush (v := 50) hx hb dX6_init_631 (by decide) ?_
  refine lv_bipush (v := 116) hx hb dX6_init_633 (by decide) ?_
  refine cw_fill (k := 50) C hP hD hS (by decide) (by decide) (by decide) (by decide) dX6_init_635 (fun H locs hP hD hS => ?_)
  refine lv_dup hx hb dX6_init_636 rfl ?_
  refine lv_bipush (v := 51) hx hb dX6_init_637 (by decide) ?_
  refine lv_bipush (v := 32) hx hb dX6_init_639 (by decide) ?_
  refine cw_fill (k := 51) C hP hD hS (by decide) (by decide) (by decide) (by decide) dX6_init_641 (fun H locs hP hD hS => ?_)
  refine lv_dup hx hb dX6_init_642 rfl ?_
  refine lv_bipush (v := 52) hx hb dX6_init_643 (by decide) ?_
  refine lv_bipush (v := 32) hx hb dX6_init_645 (by decide) ?_
  refine cw_fill (k := 52) C hP hD hS (by decide) (by decide) (by decide) (by decide) dX6_init_647 (fun H locs hP hD hS => ?_)
  refine lv_dup hx hb dX6_init_648 rfl ?_
  refine lv_bipush (v := 53) hx hb dX6_init_649 (by decide) ?_
  refine lv_bipush (v := 32) hx hb dX6_init_651 (by decide) ?_
  refine cw_fill (k := 53) C hP hD hS (by decide) (by decide) (by decide) (by decide) dX6_init_653 (fun H locs hP hD hS => ?_)
  refine lv_dup hx hb dX6_init_654 rfl ?_
  refine lv_bipush (v := 54) hx hb dX6_init_655 (by decide) ?_
  refine lv_bipush (v := 32) hx hb dX6_init_657 (by decide) ?_
  refine cw_fill (k := 54) C hP hD hS (by decide) (by decide) (by decide) (by decide) dX6_init_659 (fun H locs hP hD hS => ?_)
  refine lv_dup hx hb dX6_init_660 rfl ?_
  refine lv_bipush (v := 55) hx hb dX6_init_661 (by decide) ?_
  refine lv_bipush (v := 32) hx hb dX6_init_663 (by decide) ?_
  refine cw_fill (k := 55) C hP hD hS (by decide) (by decide) (by decide) (by decide) dX6_init_665 (fun H locs hP hD hS => ?_)
  refine lv_dup hx hb dX6_init_666 rfl ?_
  refine lv_bipush (v := 56) hx hb dX6_init_667 (by decide) ?_
  refine lv_bipush (v := 119) hx hb dX6_init_669 (by decide) ?_
  refine cw_fill (k := 56) C hP hD hS (by decide) (by decide) (by decide) (by decide) dX6_init_671 (fun H locs hP hD hS => ?_)
  refine lv_dup hx hb dX6_init_672 rfl ?_
  refine lv_bipush (v := 57) hx hb dX6_init_673 (by decide) ?_
  refine lv_bipush (v := 111) hx hb dX6_init_675 (by decide) ?_
  refine cw_fill (k := 57) C hP hD hS (by decide) (by decide) (by decide) (by decide) dX6_init_677 (fun H locs hP hD hS => ?_)
  refine lv_dup hx hb dX6_init_678 rfl ?_
  refine lv_bipush (v := 58) hx hb dX6_init_679 (by decide) ?_
  refine lv_bipush (v := 111) hx hb dX6_init_681 (by decide) ?_
  refine cw_fill (k := 58) C hP hD hS (by decide) (by decide) (by decide) (by decide) dX6_init_683 (fun H locs hP hD hS => ?_)
  refine lv_dup hx hb dX6_init_684 rfl ?_
  refine lv_bipush (v := 59) hx hb dX6_init_685 (by decide) ?_
  refine lv_bipush (v := 108) hx hb dX6_init_687 (by decide) ?_
  refine cw_fill (k := 59) C hP hD hS (by decide) (by decide) (by decide) (by decide) dX6_init_689 (fun H locs hP hD hS => ?_)
  refine lv_dup hx hb dX6_init_690 rfl ?_
  refine lv_bipush (v := 60) hx hb dX6_init_691 (by decide) ?_
  refine lv_bipush (v := 32) hx hb dX6_init_693 (by decide) ?_
  refine cw_fill (k := 60) C hP hD hS (by decide) (by decide) (by decide) (by decide) dX6_init_695 (fun H locs hP hD hS => ?_)
  refine lv_dup hx hb dX6_init_696 rfl ?_
  refine lv_bipush (v := 61) hx hb dX6_init_697 (by decide) ?_
  refine lv_bipush (v := 32) hx hb dX6_init_699 (by decide) ?_
  refine cw_fill (k := 61) C hP hD hS (by decide) (by decide) (by decide) (by decide) dX6_init_701 (fun H locs hP hD hS => ?_)
  refine lv_dup hx hb dX6_init_702 rfl ?_
  refine lv_bipush (v := 62) hx hb dX6_init_703 (by decide) ?_
  refine lv_bipush (v := 32) hx hb dX6_init_705 (by decide) ?_
  refine cw_fill (k := 62) C hP hD hS (by decide) (by decide) (by decide) (by decide) dX6_init_707 (fun H locs hP hD hS => ?_)
  refine lv_dup hx hb dX6_init_708 rfl ?_
  refine lv_bipush (v := 63) hx hb dX6_init_709 (by decide) ?_
  refine lv_bipush (v := 32) hx hb dX6_init_711 (by decide) ?_
  refine cw_fill (k := 63) C hP hD hS (by decide) (by decide) (by decide) (by decide) dX6_init_713 (fun H locs hP hD hS => ?_)
  refine lv_dup hx hb dX6_init_714 rfl ?_
  refine lv_bipush (v := 64) hx hb dX6_init_715 (by decide) ?_
  refine lv_bipush (v := 109) hx hb dX6_init_717 (by decide) ?_
  refine cw_fill (k := 64) C hP hD hS (by decide) (by decide) (by decide) (by decide) dX6_init_719 (fun H locs hP hD hS => ?_)
  refine lv_dup hx hb dX6_init_720 rfl ?_
  refine lv_bipush (v := 65) hx hb dX6_init_721 (by decide) ?_
  refine lv_bipush (v := 111) hx hb dX6_init_723 (by decide) ?_
  refine cw_fill (k := 65) C hP hD hS (by decide) (by decide) (by decide) (by decide) dX6_init_725 (fun H locs hP hD hS => ?_)
  refine lv_dup hx hb dX6_init_726 rfl ?_
  refine lv_bipush (v := 66) hx hb dX6_init_727 (by decide) ?_
  refine lv_bipush (v := 114) hx hb dX6_init_729 (by decide) ?_
  refine cw_fill (k := 66) C hP hD hS (by decide) (by decide) (by decide) (by decide) dX6_init_731 (fun H locs hP hD hS => ?_)
  refine lv_dup hx hb dX6_init_732 rfl ?_
  refine lv_bipush (v := 67) hx hb dX6_init_733 (by decide) ?_
  refine lv_bipush (v := 101) hx hb dX6_init_735 (by decide) ?_
  refine cw_fill (k := 67) C hP hD hS (by decide) (by decide) (by decide) (by decide) dX6_init_737 (fun H locs hP hD hS => ?_)
  refine lv_dup hx hb dX6_init_738 rfl ?_
  refine lv_bipush (v := 68) hx hb dX6_init_739 (by decide) ?_
  refine lv_bipush (v := 32) hx hb dX6_init_741 (by decide) ?_
  refine cw_fill (k := 68) C hP hD hS (by decide) (by decide) (by decide) (by decide) dX6_init_743 (fun H locs hP hD hS => ?_)
  refine lv_dup hx hb dX6_init_744 rfl ?_
  refine lv_bipush (v := 69) hx hb dX6_init_745 (by decide) ?_
  refine lv_bipush (v := 32) hx hb dX6_init_747 (by decide) ?_
  refine cw_fill (k := 69) C hP hD hS (by decide) (by decide) (by decide) (by decide) dX6_init_749 (fun H locs hP hD hS => ?_)
  refine lv_dup hx hb dX6_init_750 rfl ?_
  refine lv_bipush (v := 70) hx hb dX6_init_751 (by decide) ?_
  refine lv_bipush (v := 32) hx hb dX6_init_753 (by decide) ?_
  refine cw_fill (k := 70) C hP hD hS (by decide) (by decide) (by decide) (by decide) dX6_init_755 (fun H locs hP hD hS => ?_)
  refine lv_dup hx hb dX6_init_756 rfl ?_
  refine lv_bipush (v := 71) hx hb dX6_init_757 (by decide) ?_
  refine lv_bipush (v := 32) hx hb dX6_init_759 (by decide) ?_
  refine cw_fill (k := 71) C hP hD hS (by decide) (by decide) (by decide) (by decide) dX6_init_761 (fun H locs hP hD hS => ?_)
  refine lv_dup hx hb dX6_init_762 rfl ?_
  refine lv_bipush (v := 72) hx hb dX6_init_763 (by decide) ?_
  refine lv_bipush (v := 111) hx hb dX6_init_765 (by decide) ?_
  refine cw_fill (k := 72) C hP hD hS (by decide) (by decide) (by decide) (by decide) dX6_init_767 (fun H locs hP hD hS => ?_)
  refine lv_dup hx hb dX6_init_768 rfl ?_
  refine lv_bipush (v := 73) hx hb dX6_init_769 (by decide) ?_
  refine lv_bipush (v := 114) hx hb dX6_init_771 (by decide) ?_
  refine cw_fill (k := 73) C hP hD hS (by decide) (by decide) (by decide) (by decide) dX6_init_773 (fun H locs hP hD hS => ?_)
  refine lv_dup hx hb dX6_init_774 rfl ?_
  refine lv_bipush (v := 74) hx hb dX6_init_775 (by decide) ?_
  refine lv_bipush (v := 32) hx hb dX6_init_777 (by decide) ?_
  refine cw_fill (k := 74) C hP hD hS (by decide) (by decide) (by decide) (by decide) dX6_init_779 (fun H locs hP hD hS => ?_)
  refine lv_dup hx hb dX6_init_780 rfl ?_
  refine lv_bipush (v := 75) hx hb dX6_init_781 (by decide) ?_
  refine lv_bipush (v := 32) hx hb dX6_init_783 (by decide) ?_
  refine cw_fill (k := 75) C hP hD hS (by decide) (by decide) (by decide) (by decide) dX6_init_785 (fun H locs hP hD hS => ?_)
  refine lv_dup hx hb dX6_init_786 rfl ?_
  refine lv_bipush (v := 76) hx hb dX6_init_787 (by decide) ?_
  refine lv_bipush (v := 32) hx hb dX6_init_789 (by decide) ?_
  refine cw_fill (k := 76) C hP hD hS (by decide) (by decide) (by decide) (by decide) dX6_init_791 (fun H locs hP hD hS => ?_)
  refine lv_dup hx hb dX6_init_792 rfl ?_
  refine lv_bipush (v := 77) hx hb dX6_init_793 (by decide) ?_
  refine lv_bipush (v := 32) hx hb dX6_init_795 (by decide) ?_
  refine cw_fill (k := 77) C hP hD hS (by decide) (by decide) (by decide) (by decide) dX6_init_797 (fun H locs hP hD hS => ?_)
  refine lv_dup hx hb dX6_init_798 rfl ?_
  refine lv_bipush (v := 78) hx hb dX6_init_799 (by decide) ?_
  refine lv_bipush (v := 32) hx hb dX6_init_801 (by decide) ?_
  refine cw_fill (k := 78) C hP hD hS (by decide) (by decide) (by decide) (by decide) dX6_init_803 (fun H locs hP hD hS => ?_)
  refine lv_dup hx hb dX6_init_804 rfl ?_
  refine lv_bipush (v := 79) hx hb dX6_init_805 (by decide) ?_
  refine lv_bipush (v := 32) hx hb dX6_init_807 (by decide) ?_
  refine cw_fill (k := 79) C hP hD hS (by decide) (by decide) (by decide) (by decide) dX6_init_809 (fun H locs hP hD hS => ?_)
  refine lv_dup hx hb dX6_init_810 rfl ?_
  refine lv_bipush (v := 80) hx hb dX6_init_811 (by decide) ?_
  refine lv_bipush (v := 97) hx hb dX6_init_813 (by decide) ?_
  refine cw_fill (k := 80) C hP hD hS (by decide) (by decide) (by decide) (by decide) dX6_init_815 (fun H locs hP hD hS => ?_)
  refine lv_dup hx hb dX6_init_816 rfl ?_
  refine lv_bipush (v := 81) hx hb dX6_init_817 (by decide) ?_
  refine lv_bipush (v := 110) hx hb dX6_init_819 (by decide) ?_
  refine cw_fill (k := 81) C hP hD hS (by decide) (by decide) (by decide) (by decide) dX6_init_821 (fun H locs hP hD hS => ?_)
  refine lv_dup hx hb dX6_init_822 rfl ?_
  refine lv_bipush (v := 82) hx hb dX6_init_823 (by decide) ?_
  refine lv_bipush (v := 100) hx hb dX6_init_825 (by decide) ?_
  refine cw_fill (k := 82) C hP hD hS (by decide) (by decide) (by decide) (by decide) dX6_init_827 (fun H locs hP hD hS => ?_)
  refine lv_dup hx hb dX6_init_828 rfl ?_
  refine lv_bipush (v := 83) hx hb dX6_init_829 (by decide) ?_
  refine lv_bipush (v := 32) hx hb dX6_init_831 (by decide) ?_
  refine cw_fill (k := 83) C hP hD hS (by decide) (by decide) (by decide) (by decide) dX6_init_833 (fun H locs hP hD hS => ?_)
  refine lv_dup hx hb dX6_init_834 rfl ?_
  refine lv_bipush (v := 84) hx hb dX6_init_835 (by decide) ?_
  refine lv_bipush (v := 32) hx hb dX6_init_837 (by decide) ?_
  refine cw_fill (k := 84) C hP hD hS (by decide) (by decide) (by decide) (by decide) dX6_init_839 (fun H locs hP hD hS => ?_)
  refine lv_dup hx hb dX6_init_840 rfl ?_
  refine lv_bipush (v := 85) hx hb dX6_init_841 (by decide) ?_
  refine lv_bipush (v := 32) hx hb dX6_init_843 (by decide) ?_
  refine cw_fill (k := 85) C hP hD hS (by decide) (by decide) (by decide) (by decide) dX6_init_845 (fun H locs hP hD hS => ?_)
  refine lv_dup hx hb dX6_init_846 rfl ?_
  refine lv_bipush (v := 86) hx hb dX6_init_847 (by decide) ?_
  refine lv_bipush (v := 32) hx hb dX6_init_849 (by decide) ?_
  refine cw_fill (k := 86) C hP hD hS (by decide) (by decide) (by decide) (by decide) dX6_init_851 (fun H locs hP hD hS => ?_)
  refine lv_dup hx hb dX6_init_852 rfl ?_
  refine lv_bipush (v := 87) hx hb dX6_init_853 (by decide) ?_
  refine lv_bipush (v := 32) hx hb dX6_init_855 (by decide) ?_
  refine cw_fill (k := 87) C hP hD hS (by decide) (by decide) (by decide) (by decide) dX6_init_857 (fun H locs hP hD hS => ?_)
  refine lv_dup hx hb dX6_init_858 rfl ?_
  refine lv_bipush (v := 88) hx hb dX6_init_859 (by decide) ?_
  refine lv_bipush (v := 110) hx hb dX6_init_861 (by decide) ?_
  refine cw_fill (k := 88) C hP hD hS (by decide) (by decide) (by decide) (by decide) dX6_init_863 (fun H locs hP hD hS => ?_)
  refine lv_dup hx hb dX6_init_864 rfl ?_
  refine lv_bipush (v := 89) hx hb dX6_init_865 (by decide) ?_
  refine lv_bipush (v := 111) hx hb dX6_init_867 (by decide) ?_
  refine cw_fill (k := 89) C hP hD hS (by decide) (by decide) (by decide) (by decide) dX6_init_869 (fun H locs hP hD hS => ?_)
  refine lv_dup hx hb dX6_init_870 rfl ?_
  refine lv_bipush (v := 90) hx hb dX6_init_871 (by decide) ?_
  refine lv_bipush (v := 116) hx hb dX6_init_873 (by decide) ?_
  refine cw_fill (k := 90) C hP hD hS (by decide) (by decide) (by decide) (by decide) dX6_init_875 (fun H locs hP hD hS => ?_)
  refine lv_dup hx hb dX6_init_876 rfl ?_
  refine lv_bipush (v := 91) hx hb dX6_init_877 (by decide) ?_
  refine lv_bipush (v := 32) hx hb dX6_init_879 (by decide) ?_
  refine cw_fill (k := 91) C hP hD hS (by decide) (by decide) (by decide) (by decide) dX6_init_881 (fun H locs hP hD hS => ?_)
  refine lv_dup hx hb dX6_init_882 rfl ?_
  refine lv_bipush (v := 92) hx hb dX6_init_883 (by decide) ?_
  refine lv_bipush (v := 32) hx hb dX6_init_885 (by decide) ?_
  refine cw_fill (k := 92) C hP hD hS (by decide) (by decide) (by decide) (by decide) dX6_init_887 (fun H locs hP hD hS => ?_)
  refine lv_dup hx hb dX6_init_888 rfl ?_
  refine lv_bipush (v := 93) hx hb dX6_init_889 (by decide) ?_
  refine lv_bipush (v := 32) hx hb dX6_init_891 (by decide) ?_
  refine cw_fill (k := 93) C hP hD hS (by decide) (by decide) (by decide) (by decide) dX6_init_893 (fun H locs hP hD hS => ?_)
  refine lv_dup hx hb dX6_init_894 rfl ?_
  refine lv_bipush (v := 94) hx hb dX6_init_895 (by decide) ?_
  refine lv_bipush (v := 32) hx hb dX6_init_897 (by decide) ?_
  refine cw_fill (k := 94) C hP hD hS (by decide) (by decide) (by decide) (by decide) dX6_init_899 (fun H locs hP hD hS => ?_)
  refine lv_dup hx hb dX6_init_900 rfl ?_
  refine lv_bipush (v := 95) hx hb dX6_init_901 (by decide) ?_
  refine lv_bipush (v := 32) hx hb dX6_init_903 (by decide) ?_
  refine cw_fill (k := 95) C hP hD hS (by decide) (by decide) (by decide) (by decide) dX6_init_905 (fun H locs hP hD hS => ?_)
  refine va_putF (D := D) (ci := 6) (v := .ref q15) (C := RX6) (T := TX6) (N := 37) hx hb hts inT6 tyX6 tyX6_ok nmX6 hown hK hP hD hS 1 rfl rfl 26 (by decide) (hts _ wd_908) (fun _ h9 => h9) rfl hin rfl (tyX6_ok 26 (by decide)) rfl rfl (Nat.le_of_ble_eq_true rfl) dX6_init_906 (fun H locs hP hD hS => ?_)
  replace hP : va_P D vwCl ((q15, .inl (cy 0, 96, .inl (filF (fun k => nI (wtab.getD k 0)) 96))) :: (h0, .inr (6, [.int 0, .ref q1, .ref q2, .ref q3, .ref q4, .ref q5, .long 0, .int 0, .ref q6, .int 0, .ref q7, .ref q8, .int 0, .int 0, .int 0, .ref q9, .long 0, .ref q10, .ref q11, .ref q12, .ref q13, .ref q14, .int 0, .int 0, .int 0, .int 0, .ref q15, .null, .int 0, .int 0, .int 0, .null, .null, .null, .int 0, .null, .int 0])) :: (q14, .inl (cy 0, 34, .inl (filF (fun k => nI (lawB k)) 34))) :: (q13, .inl (cy 0, 160, .inl (fun _ => 0))) :: (q12, .inl (cy 0, 4, .inl (fun _ => 0))) :: (q11, .inl (cy 0, 4, .inl (filF (fun _ => (-1 : Int32)) 4))) :: (q10, .inl (cy 0, 3, .inl (fun _ => 0))) :: (q9, .inl (cy 0, 132, .inl (fun _ => 0))) :: (q8, .inl (cy 0, 24, .inl (fun _ => 0))) :: (q7, .inl (cy 0, 1200, .inl (fun _ => 0))) :: (q6, .inl (cy 0, 160, .inl (fun _ => 0))) :: (q5, .inl (cy 0, 6, .inl (fun _ => 0))) :: (q4, .inl (cy 0, 96, .inl (fun _ => 0))) :: (q3, .inl (cy 0, 30, .inl (fun _ => 0))) :: (q2, .inl (cy 0, 6, .inl (fun _ => 0))) :: (q1, .inl (cy 0, 6, .inl (fun _ => 0))) :: []) H := hP
  replace hD : va_D A ((q15, .inl (cy 0, 96, .inl (filF (fun k => nI (wtab.getD k 0)) 96))) :: (h0, .inr (6, [.int 0, .ref q1, .ref q2, .ref q3, .ref q4, .ref q5, .long 0, .int 0, .ref q6, .int 0, .ref q7, .ref q8, .int 0, .int 0, .int 0, .ref q9, .long 0, .ref q10, .ref q11, .ref q12, .ref q13, .ref q14, .int 0, .int 0, .int 0, .int 0, .ref q15, .null, .int 0, .int 0, .int 0, .null, .null, .null, .int 0, .null, .int 0])) :: (q14, .inl (cy 0, 34, .inl (filF (fun k => nI (lawB k)) 34))) :: (q13, .inl (cy 0, 160, .inl (fun _ => 0))) :: (q12, .inl (cy 0, 4, .inl (fun _ => 0))) :: (q11, .inl (cy 0, 4, .inl (filF (fun _ => (-1 : Int32)) 4))) :: (q10, .inl (cy 0, 3, .inl (fun _ => 0))) :: (q9, .inl (cy 0, 132, .inl (fun _ => 0))) :: (q8, .inl (cy 0, 24, .inl (fun _ => 0))) :: (q7, .inl (cy 0, 1200, .inl (fun _ => 0))) :: (q6, .inl (cy 0, 160, .inl (fun _ => 0))) :: (q5, .inl (cy 0, 6, .inl (fun _ => 0))) :: (q4, .inl (cy 0, 96, .inl (fun _ => 0))) :: (q3, .inl (cy 0, 30, .inl (fun _ => 0))) :: (q2, .inl (cy 0, 6, .inl (fun _ => 0))) :: (q1, .inl (cy 0, 6, .inl (fun _ => 0))) :: []) := hD
  replace hP : va_P D vwCl ((h0, .inr (6, [.int 0, .ref q1, .ref q2, .ref q3, .ref q4, .ref q5, .long 0, .int 0, .ref q6, .int 0, .ref q7, .ref q8, .int 0, .int 0, .int 0, .ref q9, .long 0, .ref q10, .ref q11, .ref q12, .ref q13, .ref q14, .int 0, .int 0, .int 0, .int 0, .ref q15, .null, .int 0, .int 0, .int 0, .null, .null, .null, .int 0, .null, .int 0])) :: (q15, .inl (cy 0, 96, .inl (filF (fun k => nI (wtab.getD k 0)) 96))) :: (q14, .inl (cy 0, 34, .inl (filF (fun k => nI (lawB k)) 34))) :: (q13, .inl (cy 0, 160, .inl (fun _ => 0))) :: (q12, .inl (cy 0, 4, .inl (fun _ => 0))) :: (q11, .inl (cy 0, 4, .inl (filF (fun _ => (-1 : Int32)) 4))) :: (q10, .inl (cy 0, 3, .inl (fun _ => 0))) :: (q9, .inl (cy 0, 132, .inl (fun _ => 0))) :: (q8, .inl (cy 0, 24, .inl (fun _ => 0))) :: (q7, .inl (cy 0, 1200, .inl (fun _ => 0))) :: (q6, .inl (cy 0, 160, .inl (fun _ => 0))) :: (q5, .inl (cy 0, 6, .inl (fun _ => 0))) :: (q4, .inl (cy 0, 96, .inl (fun _ => 0))) :: (q3, .inl (cy 0, 30, .inl (fun _ => 0))) :: (q2, .inl (cy 0, 6, .inl (fun _ => 0))) :: (q1, .inl (cy 0, 6, .inl (fun _ => 0))) :: []) H := swp_P (a := [(q15, .inl (cy 0, 96, .inl (filF (fun k => nI (wtab.getD k 0)) 96)))]) (b := [(h0, .inr (6, [.int 0, .ref q1, .ref q2, .ref q3, .ref q4, .ref q5, .long 0, .int 0, .ref q6, .int 0, .ref q7, .ref q8, .int 0, .int 0, .int 0, .ref q9, .long 0, .ref q10, .ref q11, .ref q12, .ref q13, .ref q14, .int 0, .int 0, .int 0, .int 0, .ref q15, .null, .int 0, .int 0, .int 0, .null, .null, .null, .int 0, .null, .int 0]))]) hP
  replace hD : va_D A ((h0, .inr (6, [.int 0, .ref q1, .ref q2, .ref q3, .ref q4, .ref q5, .long 0, .int 0, .ref q6, .int 0, .ref q7, .ref q8, .int 0, .int 0, .int 0, .ref q9, .long 0, .ref q10, .ref q11, .ref q12, .ref q13, .ref q14, .int 0, .int 0, .int 0, .int 0, .ref q15, .null, .int 0, .int 0, .int 0, .null, .null, .null, .int 0, .null, .int 0])) :: (q15, .inl (cy 0, 96, .inl (filF (fun k => nI (wtab.getD k 0)) 96))) :: (q14, .inl (cy 0, 34, .inl (filF (fun k => nI (lawB k)) 34))) :: (q13, .inl (cy 0, 160, .inl (fun _ => 0))) :: (q12, .inl (cy 0, 4, .inl (fun _ => 0))) :: (q11, .inl (cy 0, 4, .inl (filF (fun _ => (-1 : Int32)) 4))) :: (q10, .inl (cy 0, 3, .inl (fun _ => 0))) :: (q9, .inl (cy 0, 132, .inl (fun _ => 0))) :: (q8, .inl (cy 0, 24, .inl (fun _ => 0))) :: (q7, .inl (cy 0, 1200, .inl (fun _ => 0))) :: (q6, .inl (cy 0, 160, .inl (fun _ => 0))) :: (q5, .inl (cy 0, 6, .inl (fun _ => 0))) :: (q4, .inl (cy 0, 96, .inl (fun _ => 0))) :: (q3, .inl (cy 0, 30, .inl (fun _ => 0))) :: (q2, .inl (cy 0, 6, .inl (fun _ => 0))) :: (q1, .inl (cy 0, 6, .inl (fun _ => 0))) :: []) := swp_D (a := [(q15, .inl (cy 0, 96, .inl (filF (fun k => nI (wtab.getD k 0)) 96)))]) (b := [(h0, .inr (6, [.int 0, .ref q1, .ref q2, .ref q3, .ref q4, .ref q5, .long 0, .int 0, .ref q6, .int 0, .ref q7, .ref q8, .int 0, .int 0, .int 0, .ref q9, .long 0, .ref q10, .ref q11, .ref q12, .ref q13, .ref q14, .int 0, .int 0, .int 0, .int 0, .ref q15, .null, .int 0, .int 0, .int 0, .null, .null, .null, .int 0, .null, .int 0]))]) hD
  refine lv_aload_n hx hb dX6_init_909 rfl (lv_at hl 0 rfl) ?_
  refine lv_sipush (v := 200) hx hb dX6_init_910 (by decide) ?_
  refine cw_ni C hP hD hS (N := 200) rfl (by decide) (Nat.le_of_ble_eq_true rfl) (Nat.le_of_ble_eq_true rfl) dX6_init_913 (fun q16 H hP hD hS => ?_)
  refine W.widen (k := 16) (n := 2161) (Nat.le_of_ble_eq_true rfl) (Nat.le_of_ble_eq_true rfl) ?_
  refine va_putF (D := D) (ci := 6) (v := .ref q16) (C := RX6) (T := TX6) (N := 37) hx hb hts inT6 tyX6 tyX6_ok nmX6 hown hK hP hD hS 1 rfl rfl 27 (by decide) (hts _ wd_909) (fun _ h9 => h9) rfl hin rfl (tyX6_ok 27 (by decide)) rfl rfl (Nat.le_of_ble_eq_true rfl) dX6_init_915 (fun H locs hP hD hS => ?_)
  replace hP : va_P D vwCl ((q16, .inl (cy 0, 200, .inl (fun _ => 0))) :: (h0, .inr (6, [.int 0, .ref q1, .ref q2, .ref q3, .ref q4, .ref q5, .long 0, .int 0, .ref q6, .int 0, .ref q7, .ref q8, .int 0, .int 0, .int 0, .ref q9, .long 0, .ref q10, .ref q11, .ref q12, .ref q13, .ref q14, .int 0, .int 0, .int 0, .int 0, .ref q15, .ref q16, .int 0, .int 0, .int 0, .null, .null, .null, .int 0, .null, .int 0])) :: (q15, .inl (cy 0, 96, .inl (filF (fun k => nI (wtab.getD k 0)) 96))) :: (q14, .inl (cy 0, 34, .inl (filF (fun k => nI (lawB k)) 34))) :: (q13, .inl (cy 0, 160, .inl (fun _ => 0))) :: (q12, .inl (cy 0, 4, .inl (fun _ => 0))) :: (q11, .inl (cy 0, 4, .inl (filF (fun _ => (-1 : Int32)) 4))) :: (q10, .inl (cy 0, 3, .inl (fun _ => 0))) :: (q9, .inl (cy 0, 132, .inl (fun _ => 0))) :: (q8, .inl (cy 0, 24, .inl (fun _ => 0))) :: (q7, .inl (cy 0, 1200, .inl (fun _ => 0))) :: (q6, .inl (cy 0, 160, .inl (fun _ => 0))) :: (q5, .inl (cy 0, 6, .inl (fun _ => 0))) :: (q4, .inl (cy 0, 96, .inl (fun _ => 0))) :: (q3, .inl (cy 0, 30, .inl (fun _ => 0))) :: (q2, .inl (cy 0, 6, .inl (fun _ => 0))) :: (q1, .inl (cy 0, 6, .inl (fun _ => 0))) :: []) H := hP
  replace hD : va_D A ((q16, .inl (cy 0, 200, .inl (fun _ => 0))) :: (h0, .inr (6, [.int 0, .ref q1, .ref q2, .ref q3, .ref q4, .ref q5, .long 0, .int 0, .ref q6, .int 0, .ref q7, .ref q8, .int 0, .int 0, .int 0, .ref q9, .long 0, .ref q10, .ref q11, .ref q12, .ref q13, .ref q14, .int 0, .int 0, .int 0, .int 0, .ref q15, .ref q16, .int 0, .int 0, .int 0, .null, .null, .null, .int 0, .null, .int 0])) :: (q15, .inl (cy 0, 96, .inl (filF (fun k => nI (wtab.getD k 0)) 96))) :: (q14, .inl (cy 0, 34, .inl (filF (fun k => nI (lawB k)) 34))) :: (q13, .inl (cy 0, 160, .inl (fun _ => 0))) :: (q12, .inl (cy 0, 4, .inl (fun _ => 0))) :: (q11, .inl (cy 0, 4, .inl (filF (fun _ => (-1 : Int32)) 4))) :: (q10, .inl (cy 0, 3, .inl (fun _ => 0))) :: (q9, .inl (cy 0, 132, .inl (fun _ => 0))) :: (q8, .inl (cy 0, 24, .inl (fun _ => 0))) :: (q7, .inl (cy 0, 1200, .inl (fun _ => 0))) :: (q6, .inl (cy 0, 160, .inl (fun _ => 0))) :: (q5, .inl (cy 0, 6, .inl (fun _ => 0))) :: (q4, .inl (cy 0, 96, .inl (fun _ => 0))) :: (q3, .inl (cy 0, 30, .inl (fun _ => 0))) :: (q2, .inl (cy 0, 6, .inl (fun _ => 0))) :: (q1, .inl (cy 0, 6, .inl (fun _ => 0))) :: []) := hD
  replace hP : va_P D vwCl ((h0, .inr (6, [.int 0, .ref q1, .ref q2, .ref q3, .ref q4, .ref q5, .long 0, .int 0, .ref q6, .int 0, .ref q7, .ref q8, .int 0, .int 0, .int 0, .ref q9, .long 0, .ref q10, .ref q11, .ref q12, .ref q13, .ref q14, .int 0, .int 0, .int 0, .int 0, .ref q15, .ref q16, .int 0, .int 0, .int 0, .null, .null, .null, .int 0, .null, .int 0])) :: (q16, .inl (cy 0, 200, .inl (fun _ => 0))) :: (q15, .inl (cy 0, 96, .inl (filF (fun k => nI (wtab.getD k 0)) 96))) :: (q14, .inl (cy 0, 34, .inl (filF (fun k => nI (lawB k)) 34))) :: (q13, .inl (cy 0, 160, .inl (fun _ => 0))) :: (q12, .inl (cy 0, 4, .inl (fun _ => 0))) :: (q11, .inl (cy 0, 4, .inl (filF (fun _ => (-1 : Int32)) 4))) :: (q10, .inl (cy 0, 3, .inl (fun _ => 0))) :: (q9, .inl (cy 0, 132, .inl (fun _ => 0))) :: (q8, .inl (cy 0, 24, .inl (fun _ => 0))) :: (q7, .inl (cy 0, 1200, .inl (fun _ => 0))) :: (q6, .inl (cy 0, 160, .inl (fun _ => 0))) :: (q5, .inl (cy 0, 6, .inl (fun _ => 0))) :: (q4, .inl (cy 0, 96, .inl (fun _ => 0))) :: (q3, .inl (cy 0, 30, .inl (fun _ => 0))) :: (q2, .inl (cy 0, 6, .inl (fun _ => 0))) :: (q1, .inl (cy 0, 6, .inl (fun _ => 0))) :: []) H := swp_P (a := [(q16, .inl (cy 0, 200, .inl (fun _ => 0)))]) (b := [(h0, .inr (6, [.int 0, .ref q1, .ref q2, .ref q3, .ref q4, .ref q5, .long 0, .int 0, .ref q6, .int 0, .ref q7, .ref q8, .int 0, .int 0, .int 0, .ref q9, .long 0, .ref q10, .ref q11, .ref q12, .ref q13, .ref q14, .int 0, .int 0, .int 0, .int 0, .ref q15, .ref q16, .int 0, .int 0, .int 0, .null, .null, .null, .int 0, .null, .int 0]))]) hP
  replace hD : va_D A ((h0, .inr (6, [.int 0, .ref q1, .ref q2, .ref q3, .ref q4, .ref q5, .long 0, .int 0, .ref q6, .int 0, .ref q7, .ref q8, .int 0, .int 0, .int 0, .ref q9, .long 0, .ref q10, .ref q11, .ref q12, .ref q13, .ref q14, .int 0, .int 0, .int 0, .int 0, .ref q15, .ref q16, .int 0, .int 0, .int 0, .null, .null, .null, .int 0, .null, .int 0])) :: (q16, .inl (cy 0, 200, .inl (fun _ => 0))) :: (q15, .inl (cy 0, 96, .inl (filF (fun k => nI (wtab.getD k 0)) 96))) :: (q14, .inl (cy 0, 34, .inl (filF (fun k => nI (lawB k)) 34))) :: (q13, .inl (cy 0, 160, .inl (fun _ => 0))) :: (q12, .inl (cy 0, 4, .inl (fun _ => 0))) :: (q11, .inl (cy 0, 4, .inl (filF (fun _ => (-1 : Int32)) 4))) :: (q10, .inl (cy 0, 3, .inl (fun _ => 0))) :: (q9, .inl (cy 0, 132, .inl (fun _ => 0))) :: (q8, .inl (cy 0, 24, .inl (fun _ => 0))) :: (q7, .inl (cy 0, 1200, .inl (fun _ => 0))) :: (q6, .inl (cy 0, 160, .inl (fun _ => 0))) :: (q5, .inl (cy 0, 6, .inl (fun _ => 0))) :: (q4, .inl (cy 0, 96, .inl (fun _ => 0))) :: (q3, .inl (cy 0, 30, .inl (fun _ => 0))) :: (q2, .inl (cy 0, 6, .inl (fun _ => 0))) :: (q1, .inl (cy 0, 6, .inl (fun _ => 0))) :: []) := swp_D (a := [(q16, .inl (cy 0, 200, .inl (fun _ => 0)))]) (b := [(h0, .inr (6, [.int 0, .ref q1, .ref q2, .ref q3, .ref q4, .ref q5, .long 0, .int 0, .ref q6, .int 0, .ref q7, .ref q8, .int 0, .int 0, .int 0, .ref q9, .long 0, .ref q10, .ref q11, .ref q12, .ref q13, .ref q14, .int 0, .int 0, .int 0, .int 0, .ref q15, .ref q16, .int 0, .int 0, .int 0, .null, .null, .null, .int 0, .null, .int 0]))]) hD
  refine lv_aload_n hx hb dX6_init_918 rfl (lv_at hl 0 rfl) ?_
  refine lv_sipush (v := 200) hx hb dX6_init_919 (by decide) ?_
  refine cw_ni C hP hD hS (N := 200) rfl (by decide) (Nat.le_of_ble_eq_true rfl) (Nat.le_of_ble_eq_true rfl) dX6_init_922 (fun q17 H hP hD hS => ?_)
  refine W.widen (k := 17) (n := 2361) (Nat.le_of_ble_eq_true rfl) (Nat.le_of_ble_eq_true rfl) ?_
  refine va_putF (D := D) (ci := 6) (v := .ref q17) (C := RX6) (T := TX6) (N := 37) hx hb hts inT6 tyX6 tyX6_ok nmX6 hown hK hP hD hS 1 rfl rfl 31 (by decide) (hts _ wd_913) (fun _ h9 => h9) rfl hin rfl (tyX6_ok 31 (by decide)) rfl rfl (Nat.le_of_ble_eq_true rfl) dX6_init_924 (fun H locs hP hD hS => ?_)
  replace hP : va_P D vwCl ((q17, .inl (cy 0, 200, .inl (fun _ => 0))) :: (h0, .inr (6, [.int 0, .ref q1, .ref q2, .ref q3, .ref q4, .ref q5, .long 0, .int 0, .ref q6, .int 0, .ref q7, .ref q8, .int 0, .int 0, .int 0, .ref q9, .long 0, .ref q10, .ref q11, .ref q12, .ref q13, .ref q14, .int 0, .int 0, .int 0, .int 0, .ref q15, .ref q16, .int 0, .int 0, .int 0, .ref q17, .null, .null, .int 0, .null, .int 0])) :: (q16, .inl (cy 0, 200, .inl (fun _ => 0))) :: (q15, .inl (cy 0, 96, .inl (filF (fun k => nI (wtab.getD k 0)) 96))) :: (q14, .inl (cy 0, 34, .inl (filF (fun k => nI (lawB k)) 34))) :: (q13, .inl (cy 0, 160, .inl (fun _ => 0))) :: (q12, .inl (cy 0, 4, .inl (fun _ => 0))) :: (q11, .inl (cy 0, 4, .inl (filF (fun _ => (-1 : Int32)) 4))) :: (q10, .inl (cy 0, 3, .inl (fun _ => 0))) :: (q9, .inl (cy 0, 132, .inl (fun _ => 0))) :: (q8, .inl (cy 0, 24, .inl (fun _ => 0))) :: (q7, .inl (cy 0, 1200, .inl (fun _ => 0))) :: (q6, .inl (cy 0, 160, .inl (fun _ => 0))) :: (q5, .inl (cy 0, 6, .inl (fun _ => 0))) :: (q4, .inl (cy 0, 96, .inl (fun _ => 0))) :: (q3, .inl (cy 0, 30, .inl (fun _ => 0))) :: (q2, .inl (cy 0, 6, .inl (fun _ => 0))) :: (q1, .inl (cy 0, 6, .inl (fun _ => 0))) :: []) H := hP
  replace hD : va_D A ((q17, .inl (cy 0, 200, .inl (fun _ => 0))) :: (h0, .inr (6, [.int 0, .ref q1, .ref q2, .ref q3, .ref q4, .ref q5, .long 0, .int 0, .ref q6, .int 0, .ref q7, .ref q8, .int 0, .int 0, .int 0, .ref q9, .long 0, .ref q10, .ref q11, .ref q12, .ref q13, .ref q14, .int 0, .int 0, .int 0, .int 0, .ref q15, .ref q16, .int 0, .int 0, .int 0, .ref q17, .null, .null, .int 0, .null, .int 0])) :: (q16, .inl (cy 0, 200, .inl (fun _ => 0))) :: (q15, .inl (cy 0, 96, .inl (filF (fun k => nI (wtab.getD k 0)) 96))) :: (q14, .inl (cy 0, 34, .inl (filF (fun k => nI (lawB k)) 34))) :: (q13, .inl (cy 0, 160, .inl (fun _ => 0))) :: (q12, .inl (cy 0, 4, .inl (fun _ => 0))) :: (q11, .inl (cy 0, 4, .inl (filF (fun _ => (-1 : Int32)) 4))) :: (q10, .inl (cy 0, 3, .inl (fun _ => 0))) :: (q9, .inl (cy 0, 132, .inl (fun _ => 0))) :: (q8, .inl (cy 0, 24, .inl (fun _ => 0))) :: (q7, .inl (cy 0, 1200, .inl (fun _ => 0))) :: (q6, .inl (cy 0, 160, .inl (fun _ => 0))) :: (q5, .inl (cy 0, 6, .inl (fun _ => 0))) :: (q4, .inl (cy 0, 96, .inl (fun _ => 0))) :: (q3, .inl (cy 0, 30, .inl (fun _ => 0))) :: (q2, .inl (cy 0, 6, .inl (fun _ => 0))) :: (q1, .inl (cy 0, 6, .inl (fun _ => 0))) :: []) := hD
  replace hP : va_P D vwCl ((h0, .inr (6, [.int 0, .ref q1, .ref q2, .ref q3, .ref q4, .ref q5, .long 0, .int 0, .ref q6, .int 0, .ref q7, .ref q8, .int 0, .int 0, .int 0, .ref q9, .long 0, .ref q10, .ref q11, .ref q12, .ref q13, .ref q14, .int 0, .int 0, .int 0, .int 0, .ref q15, .ref q16, .int 0, .int 0, .int 0, .ref q17, .null, .null, .int 0, .null, .int 0])) :: (q17, .inl (cy 0, 200, .inl (fun _ => 0))) :: (q16, .inl (cy 0, 200, .inl (fun _ => 0))) :: (q15, .inl (cy 0, 96, .inl (filF (fun k => nI (wtab.getD k 0)) 96))) :: (q14, .inl (cy 0, 34, .inl (filF (fun k => nI (lawB k)) 34))) :: (q13, .inl (cy 0, 160, .inl (fun _ => 0))) :: (q12, .inl (cy 0, 4, .inl (fun _ => 0))) :: (q11, .inl (cy 0, 4, .inl (filF (fun _ => (-1 : Int32)) 4))) :: (q10, .inl (cy 0, 3, .inl (fun _ => 0))) :: (q9, .inl (cy 0, 132, .inl (fun _ => 0))) :: (q8, .inl (cy 0, 24, .inl (fun _ => 0))) :: (q7, .inl (cy 0, 1200, .inl (fun _ => 0))) :: (q6, .inl (cy 0, 160, .inl (fun _ => 0))) :: (q5, .inl (cy 0, 6, .inl (fun _ => 0))) :: (q4, .inl (cy 0, 96, .inl (fun _ => 0))) :: (q3, .inl (cy 0, 30, .inl (fun _ => 0))) :: (q2, .inl (cy 0, 6, .inl (fun _ => 0))) :: (q1, .inl (cy 0, 6, .inl (fun _ => 0))) :: []) H := swp_P (a := [(q17, .inl (cy 0, 200, .inl (fun _ => 0)))]) (b := [(h0, .inr (6, [.int 0, .ref q1, .ref q2, .ref q3, .ref q4, .ref q5, .long 0, .int 0, .ref q6, .int 0, .ref q7, .ref q8, .int 0, .int 0, .int 0, .ref q9, .long 0, .ref q10, .ref q11, .ref q12, .ref q13, .ref q14, .int 0, .int 0, .int 0, .int 0, .ref q15, .ref q16, .int 0, .int 0, .int 0, .ref q17, .null, .null, .int 0, .null, .int 0]))]) hP
  replace hD : va_D A ((h0, .inr (6, [.int 0, .ref q1, .ref q2, .ref q3, .ref q4, .ref q5, .long 0, .int 0, .ref q6, .int 0, .ref q7, .ref q8, .int 0, .int 0, .int 0, .ref q9, .long 0, .ref q10, .ref q11, .ref q12, .ref q13, .ref q14, .int 0, .int 0, .int 0, .int 0, .ref q15, .ref q16, .int 0, .int 0, .int 0, .ref q17, .null, .null, .int 0, .null, .int 0])) :: (q17, .inl (cy 0, 200, .inl (fun _ => 0))) :: (q16, .inl (cy 0, 200, .inl (fun _ => 0))) :: (q15, .inl (cy 0, 96, .inl (filF (fun k => nI (wtab.getD k 0)) 96))) :: (q14, .inl (cy 0, 34, .inl (filF (fun k => nI (lawB k)) 34))) :: (q13, .inl (cy 0, 160, .inl (fun _ => 0))) :: (q12, .inl (cy 0, 4, .inl (fun _ => 0))) :: (q11, .inl (cy 0, 4, .inl (filF (fun _ => (-1 : Int32)) 4))) :: (q10, .inl (cy 0, 3, .inl (fun _ => 0))) :: (q9, .inl (cy 0, 132, .inl (fun _ => 0))) :: (q8, .inl (cy 0, 24, .inl (fun _ => 0))) :: (q7, .inl (cy 0, 1200, .inl (fun _ => 0))) :: (q6, .inl (cy 0, 160, .inl (fun _ => 0))) :: (q5, .inl (cy 0, 6, .inl (fun _ => 0))) :: (q4, .inl (cy 0, 96, .inl (fun _ => 0))) :: (q3, .inl (cy 0, 30, .inl (fun _ => 0))) :: (q2, .inl (cy 0, 6, .inl (fun _ => 0))) :: (q1, .inl (cy 0, 6, .inl (fun _ => 0))) :: []) := swp_D (a := [(q17, .inl (cy 0, 200, .inl (fun _ => 0)))]) (b := [(h0, .inr (6, [.int 0, .ref q1, .ref q2, .ref q3, .ref q4, .ref q5, .long 0, .int 0, .ref q6, .int 0, .ref q7, .ref q8, .int 0, .int 0, .int 0, .ref q9, .long 0, .ref q10, .ref q11, .ref q12, .ref q13, .ref q14, .int 0, .int 0, .int 0, .int 0, .ref q15, .ref q16, .int 0, .int 0, .int 0, .ref q17, .null, .null, .int 0, .null, .int 0]))]) hD
  refine lv_aload_n hx hb dX6_init_927 rfl (lv_at hl 0 rfl) ?_
  refine lv_bipush (v := 6) hx hb dX6_init_928 (by decide) ?_
  refine cw_ni C hP hD hS (N := 6) rfl (by decide) (Nat.le_of_ble_eq_true rfl) (Nat.le_of_ble_eq_true rfl) dX6_init_930 (fun q18 H hP hD hS => ?_)
  refine W.widen (k := 18) (n := 2367) (Nat.le_of_ble_eq_true rfl) (Nat.le_of_ble_eq_true rfl) ?_
  refine va_putF (D := D) (ci := 6) (v := .ref q18) (C := RX6) (T := TX6) (N := 37) hx hb hts inT6 tyX6 tyX6_ok nmX6 hown hK hP hD hS 1 rfl rfl 32 (by decide) (hts _ wd_914) (fun _ h9 => h9) rfl hin rfl (tyX6_ok 32 (by decide)) rfl rfl (Nat.le_of_ble_eq_true rfl) dX6_init_932 (fun H locs hP hD hS => ?_)
  replace hP : va_P D vwCl ((q18, .inl (cy 0, 6, .inl (fun _ => 0))) :: (h0, .inr (6, [.int 0, .ref q1, .ref q2, .ref q3, .ref q4, .ref q5, .long 0, .int 0, .ref q6, .int 0, .ref q7, .ref q8, .int 0, .int 0, .int 0, .ref q9, .long 0, .ref q10, .ref q11, .ref q12, .ref q13, .ref q14, .int 0, .int 0, .int 0, .int 0, .ref q15, .ref q16, .int 0, .int 0, .int 0, .ref q17, .ref q18, .null, .int 0, .null, .int 0])) :: (q17, .inl (cy 0, 200, .inl (fun _ => 0))) :: (q16, .inl (cy 0, 200, .inl (fun _ => 0))) :: (q15, .inl (cy 0, 96, .inl (filF (fun k => nI (wtab.getD k 0)) 96))) :: (q14, .inl (cy 0, 34, .inl (filF (fun k => nI (lawB k)) 34))) :: (q13, .inl (cy 0, 160, .inl (fun _ => 0))) :: (q12, .inl (cy 0, 4, .inl (fun _ => 0))) :: (q11, .inl (cy 0, 4, .inl (filF (fun _ => (-1 : Int32)) 4))) :: (q10, .inl (cy 0, 3, .inl (fun _ => 0))) :: (q9, .inl (cy 0, 132, .inl (fun _ => 0))) :: (q8, .inl (cy 0, 24, .inl (fun _ => 0))) :: (q7, .inl (cy 0, 1200, .inl (fun _ => 0))) :: (q6, .inl (cy 0, 160, .inl (fun _ => 0))) :: (q5, .inl (cy 0, 6, .inl (fun _ => 0))) :: (q4, .inl (cy 0, 96, .inl (fun _ => 0))) :: (q3, .inl (cy 0, 30, .inl (fun _ => 0))) :: (q2, .inl (cy 0, 6, .inl (fun _ => 0))) :: (q1, .inl (cy 0, 6, .inl (fun _ => 0))) :: []) H := hP
  replace hD : va_D A ((q18, .inl (cy 0, 6, .inl (fun _ => 0))) :: (h0, .inr (6, [.int 0, .ref q1, .ref q2, .ref q3, .ref q4, .ref q5, .long 0, .int 0, .ref q6, .int 0, .ref q7, .ref q8, .int 0, .int 0, .int 0, .ref q9, .long 0, .ref q10, .ref q11, .ref q12, .ref q13, .ref q14, .int 0, .int 0, .int 0, .int 0, .ref q15, .ref q16, .int 0, .int 0, .int 0, .ref q17, .ref q18, .null, .int 0, .null, .int 0])) :: (q17, .inl (cy 0, 200, .inl (fun _ => 0))) :: (q16, .inl (cy 0, 200, .inl (fun _ => 0))) :: (q15, .inl (cy 0, 96, .inl (filF (fun k => nI (wtab.getD k 0)) 96))) :: (q14, .inl (cy 0, 34, .inl (filF (fun k => nI (lawB k)) 34))) :: (q13, .inl (cy 0, 160, .inl (fun _ => 0))) :: (q12, .inl (cy 0, 4, .inl (fun _ => 0))) :: (q11, .inl (cy 0, 4, .inl (filF (fun _ => (-1 : Int32)) 4))) :: (q10, .inl (cy 0, 3, .inl (fun _ => 0))) :: (q9, .inl (cy 0, 132, .inl (fun _ => 0))) :: (q8, .inl (cy 0, 24, .inl (fun _ => 0))) :: (q7, .inl (cy 0, 1200, .inl (fun _ => 0))) :: (q6, .inl (cy 0, 160, .inl (fun _ => 0))) :: (q5, .inl (cy 0, 6, .inl (fun _ => 0))) :: (q4, .inl (cy 0, 96, .inl (fun _ => 0))) :: (q3, .inl (cy 0, 30, .inl (fun _ => 0))) :: (q2, .inl (cy 0, 6, .inl (fun _ => 0))) :: (q1, .inl (cy 0, 6, .inl (fun _ => 0))) :: []) := hD
  replace hP : va_P D vwCl ((h0, .inr (6, [.int 0, .ref q1, .ref q2, .ref q3, .ref q4, .ref q5, .long 0, .int 0, .ref q6, .int 0, .ref q7, .ref q8, .int 0, .int 0, .int 0, .ref q9, .long 0, .ref q10, .ref q11, .ref q12, .ref q13, .ref q14, .int 0, .int 0, .int 0, .int 0, .ref q15, .ref q16, .int 0, .int 0, .int 0, .ref q17, .ref q18, .null, .int 0, .null, .int 0])) :: (q18, .inl (cy 0, 6, .inl (fun _ => 0))) :: (q17, .inl (cy 0, 200, .inl (fun _ => 0))) :: (q16, .inl (cy 0, 200, .inl (fun _ => 0))) :: (q15, .inl (cy 0, 96, .inl (filF (fun k => nI (wtab.getD k 0)) 96))) :: (q14, .inl (cy 0, 34, .inl (filF (fun k => nI (lawB k)) 34))) :: (q13, .inl (cy 0, 160, .inl (fun _ => 0))) :: (q12, .inl (cy 0, 4, .inl (fun _ => 0))) :: (q11, .inl (cy 0, 4, .inl (filF (fun _ => (-1 : Int32)) 4))) :: (q10, .inl (cy 0, 3, .inl (fun _ => 0))) :: (q9, .inl (cy 0, 132, .inl (fun _ => 0))) :: (q8, .inl (cy 0, 24, .inl (fun _ => 0))) :: (q7, .inl (cy 0, 1200, .inl (fun _ => 0))) :: (q6, .inl (cy 0, 160, .inl (fun _ => 0))) :: (q5, .inl (cy 0, 6, .inl (fun _ => 0))) :: (q4, .inl (cy 0, 96, .inl (fun _ => 0))) :: (q3, .inl (cy 0, 30, .inl (fun _ => 0))) :: (q2, .inl (cy 0, 6, .inl (fun _ => 0))) :: (q1, .inl (cy 0, 6, .inl (fun _ => 0))) :: []) H := swp_P (a := [(q18, .inl (cy 0, 6, .inl (fun _ => 0)))]) (b := [(h0, .inr (6, [.int 0, .ref q1, .ref q2, .ref q3, .ref q4, .ref q5, .long 0, .int 0, .ref q6, .int 0, .ref q7, .ref q8, .int 0, .int 0, .int 0, .ref q9, .long 0, .ref q10, .ref q11, .ref q12, .ref q13, .ref q14, .int 0, .int 0, .int 0, .int 0, .ref q15, .ref q16, .int 0, .int 0, .int 0, .ref q17, .ref q18, .null, .int 0, .null, .int 0]))]) hP
  replace hD : va_D A ((h0, .inr (6, [.int 0, .ref q1, .ref q2, .ref q3, .ref q4, .ref q5, .long 0, .int 0, .ref q6, .int 0, .ref q7, .ref q8, .int 0, .int 0, .int 0, .ref q9, .long 0, .ref q10, .ref q11, .ref q12, .ref q13, .ref q14, .int 0, .int 0, .int 0, .int 0, .ref q15, .ref q16, .int 0, .int 0, .int 0, .ref q17, .ref q18, .null, .int 0, .null, .int 0])) :: (q18, .inl (cy 0, 6, .inl (fun _ => 0))) :: (q17, .inl (cy 0, 200, .inl (fun _ => 0))) :: (q16, .inl (cy 0, 200, .inl (fun _ => 0))) :: (q15, .inl (cy 0, 96, .inl (filF (fun k => nI (wtab.getD k 0)) 96))) :: (q14, .inl (cy 0, 34, .inl (filF (fun k => nI (lawB k)) 34))) :: (q13, .inl (cy 0, 160, .inl (fun _ => 0))) :: (q12, .inl (cy 0, 4, .inl (fun _ => 0))) :: (q11, .inl (cy 0, 4, .inl (filF (fun _ => (-1 : Int32)) 4))) :: (q10, .inl (cy 0, 3, .inl (fun _ => 0))) :: (q9, .inl (cy 0, 132, .inl (fun _ => 0))) :: (q8, .inl (cy 0, 24, .inl (fun _ => 0))) :: (q7, .inl (cy 0, 1200, .inl (fun _ => 0))) :: (q6, .inl (cy 0, 160, .inl (fun _ => 0))) :: (q5, .inl (cy 0, 6, .inl (fun _ => 0))) :: (q4, .inl (cy 0, 96, .inl (fun _ => 0))) :: (q3, .inl (cy 0, 30, .inl (fun _ => 0))) :: (q2, .inl (cy 0, 6, .inl (fun _ => 0))) :: (q1, .inl (cy 0, 6, .inl (fun _ => 0))) :: []) := swp_D (a := [(q18, .inl (cy 0, 6, .inl (fun _ => 0)))]) (b := [(h0, .inr (6, [.int 0, .ref q1, .ref q2, .ref q3, .ref q4, .ref q5, .long 0, .int 0, .ref q6, .int 0, .ref q7, .ref q8, .int 0, .int 0, .int 0, .ref q9, .long 0, .ref q10, .ref q11, .ref q12, .ref q13, .ref q14, .int 0, .int 0, .int 0, .int 0, .ref q15, .ref q16, .int 0, .int 0, .int 0, .ref q17, .ref q18, .null, .int 0, .null, .int 0]))]) hD
  refine lv_aload_n hx hb dX6_init_935 rfl (lv_at hl 0 rfl) ?_
  refine lv_bipush (v := 6) hx hb dX6_init_936 (by decide) ?_
  refine cw_nl C hP hD hS (N := 6) rfl (by decide) (Nat.le_of_ble_eq_true rfl) (Nat.le_of_ble_eq_true rfl) dX6_init_938 (fun q19 H hP hD hS => ?_)
  refine W.widen (k := 19) (n := 2373) (Nat.le_of_ble_eq_true rfl) (Nat.le_of_ble_eq_true rfl) ?_
  refine va_putF (D := D) (ci := 6) (v := .ref q19) (C := RX6) (T := TX6) (N := 37) hx hb hts inT6 tyX6 tyX6_ok nmX6 hown hK hP hD hS 1 rfl rfl 33 (by decide) (hts _ wd_915) (fun _ h9 => h9) rfl hin rfl (tyX6_ok 33 (by decide)) rfl rfl (Nat.le_of_ble_eq_true rfl) dX6_init_940 (fun H locs hP hD hS => ?_)
  replace hP : va_P D vwCl ((q19, .inl (cy 1, 6, .inr (.inl (fun _ => 0)))) :: (h0, .inr (6, [.int 0, .ref q1, .ref q2, .ref q3, .ref q4, .ref q5, .long 0, .int 0, .ref q6, .int 0, .ref q7, .ref q8, .int 0, .int 0, .int 0, .ref q9, .long 0, .ref q10, .ref q11, .ref q12, .ref q13, .ref q14, .int 0, .int 0, .int 0, .int 0, .ref q15, .ref q16, .int 0, .int 0, .int 0, .ref q17, .ref q18, .ref q19, .int 0, .null, .int 0])) :: (q18, .inl (cy 0, 6, .inl (fun _ => 0))) :: (q17, .inl (cy 0, 200, .inl (fun _ => 0))) :: (q16, .inl (cy 0, 200, .inl (fun _ => 0))) :: (q15, .inl (cy 0, 96, .inl (filF (fun k => nI (wtab.getD k 0)) 96))) :: (q14, .inl (cy 0, 34, .inl (filF (fun k => nI (lawB k)) 34))) :: (q13, .inl (cy 0, 160, .inl (fun _ => 0))) :: (q12, .inl (cy 0, 4, .inl (fun _ => 0))) :: (q11, .inl (cy 0, 4, .inl (filF (fun _ => (-1 : Int32)) 4))) :: (q10, .inl (cy 0, 3, .inl (fun _ => 0))) :: (q9, .inl (cy 0, 132, .inl (fun _ => 0))) :: (q8, .inl (cy 0, 24, .inl (fun _ => 0))) :: (q7, .inl (cy 0, 1200, .inl (fun _ => 0))) :: (q6, .inl (cy 0, 160, .inl (fun _ => 0))) :: (q5, .inl (cy 0, 6, .inl (fun _ => 0))) :: (q4, .inl (cy 0, 96, .inl (fun _ => 0))) :: (q3, .inl (cy 0, 30, .inl (fun _ => 0))) :: (q2, .inl (cy 0, 6, .inl (fun _ => 0))) :: (q1, .inl (cy 0, 6, .inl (fun _ => 0))) :: []) H := hP
  replace hD : va_D A ((q19, .inl (cy 1, 6, .inr (.inl (fun _ => 0)))) :: (h0, .inr (6, [.int 0, .ref q1, .ref q2, .ref q3, .ref q4, .ref q5, .long 0, .int 0, .ref q6, .int 0, .ref q7, .ref q8, .int 0, .int 0, .int 0, .ref q9, .long 0, .ref q10, .ref q11, .ref q12, .ref q13, .ref q14, .int 0, .int 0, .int 0, .int 0, .ref q15, .ref q16, .int 0, .int 0, .int 0, .ref q17, .ref q18, .ref q19, .int 0, .null, .int 0])) :: (q18, .inl (cy 0, 6, .inl (fun _ => 0))) :: (q17, .inl (cy 0, 200, .inl (fun _ => 0))) :: (q16, .inl (cy 0, 200, .inl (fun _ => 0))) :: (q15, .inl (cy 0, 96, .inl (filF (fun k => nI (wtab.getD k 0)) 96))) :: (q14, .inl (cy 0, 34, .inl (filF (fun k => nI (lawB k)) 34))) :: (q13, .inl (cy 0, 160, .inl (fun _ => 0))) :: (q12, .inl (cy 0, 4, .inl (fun _ => 0))) :: (q11, .inl (cy 0, 4, .inl (filF (fun _ => (-1 : Int32)) 4))) :: (q10, .inl (cy 0, 3, .inl (fun _ => 0))) :: (q9, .inl (cy 0, 132, .inl (fun _ => 0))) :: (q8, .inl (cy 0, 24, .inl (fun _ => 0))) :: (q7, .inl (cy 0, 1200, .inl (fun _ => 0))) :: (q6, .inl (cy 0, 160, .inl (fun _ => 0))) :: (q5, .inl (cy 0, 6, .inl (fun _ => 0))) :: (q4, .inl (cy 0, 96, .inl (fun _ => 0))) :: (q3, .inl (cy 0, 30, .inl (fun _ => 0))) :: (q2, .inl (cy 0, 6, .inl (fun _ => 0))) :: (q1, .inl (cy 0, 6, .inl (fun _ => 0))) :: []) := hD
  replace hP : va_P D vwCl ((h0, .inr (6, [.int 0, .ref q1, .ref q2, .ref q3, .ref q4, .ref q5, .long 0, .int 0, .ref q6, .int 0, .ref q7, .ref q8, .int 0, .int 0, .int 0, .ref q9, .long 0, .ref q10, .ref q11, .ref q12, .ref q13, .ref q14, .int 0, .int 0, .int 0, .int 0, .ref q15, .ref q16, .int 0, .int 0, .int 0, .ref q17, .ref q18, .ref q19, .int 0, .null, .int 0])) :: (q19, .inl (cy 1, 6, .inr (.inl (fun _ => 0)))) :: (q18, .inl (cy 0, 6, .inl (fun _ => 0))) :: (q17, .inl (cy 0, 200, .inl (fun _ => 0))) :: (q16, .inl (cy 0, 200, .inl (fun _ => 0))) :: (q15, .inl (cy 0, 96, .inl (filF (fun k => nI (wtab.getD k 0)) 96))) :: (q14, .inl (cy 0, 34, .inl (filF (fun k => nI (lawB k)) 34))) :: (q13, .inl (cy 0, 160, .inl (fun _ => 0))) :: (q12, .inl (cy 0, 4, .inl (fun _ => 0))) :: (q11, .inl (cy 0, 4, .inl (filF (fun _ => (-1 : Int32)) 4))) :: (q10, .inl (cy 0, 3, .inl (fun _ => 0))) :: (q9, .inl (cy 0, 132, .inl (fun _ => 0))) :: (q8, .inl (cy 0, 24, .inl (fun _ => 0))) :: (q7, .inl (cy 0, 1200, .inl (fun _ => 0))) :: (q6, .inl (cy 0, 160, .inl (fun _ => 0))) :: (q5, .inl (cy 0, 6, .inl (fun _ => 0))) :: (q4, .inl (cy 0, 96, .inl (fun _ => 0))) :: (q3, .inl (cy 0, 30, .inl (fun _ => 0))) :: (q2, .inl (cy 0, 6, .inl (fun _ => 0))) :: (q1, .inl (cy 0, 6, .inl (fun _ => 0))) :: []) H := swp_P (a := [(q19, .inl (cy 1, 6, .inr (.inl (fun _ => 0))))]) (b := [(h0, .inr (6, [.int 0, .ref q1, .ref q2, .ref q3, .ref q4, .ref q5, .long 0, .int 0, .ref q6, .int 0, .ref q7, .ref q8, .int 0, .int 0, .int 0, .ref q9, .long 0, .ref q10, .ref q11, .ref q12, .ref q13, .ref q14, .int 0, .int 0, .int 0, .int 0, .ref q15, .ref q16, .int 0, .int 0, .int 0, .ref q17, .ref q18, .ref q19, .int 0, .null, .int 0]))]) hP
  replace hD : va_D A ((h0, .inr (6, [.int 0, .ref q1, .ref q2, .ref q3, .ref q4, .ref q5, .long 0, .int 0, .ref q6, .int 0, .ref q7, .ref q8, .int 0, .int 0, .int 0, .ref q9, .long 0, .ref q10, .ref q11, .ref q12, .ref q13, .ref q14, .int 0, .int 0, .int 0, .int 0, .ref q15, .ref q16, .int 0, .int 0, .int 0, .ref q17, .ref q18, .ref q19, .int 0, .null, .int 0])) :: (q19, .inl (cy 1, 6, .inr (.inl (fun _ => 0)))) :: (q18, .inl (cy 0, 6, .inl (fun _ => 0))) :: (q17, .inl (cy 0, 200, .inl (fun _ => 0))) :: (q16, .inl (cy 0, 200, .inl (fun _ => 0))) :: (q15, .inl (cy 0, 96, .inl (filF (fun k => nI (wtab.getD k 0)) 96))) :: (q14, .inl (cy 0, 34, .inl (filF (fun k => nI (lawB k)) 34))) :: (q13, .inl (cy 0, 160, .inl (fun _ => 0))) :: (q12, .inl (cy 0, 4, .inl (fun _ => 0))) :: (q11, .inl (cy 0, 4, .inl (filF (fun _ => (-1 : Int32)) 4))) :: (q10, .inl (cy 0, 3, .inl (fun _ => 0))) :: (q9, .inl (cy 0, 132, .inl (fun _ => 0))) :: (q8, .inl (cy 0, 24, .inl (fun _ => 0))) :: (q7, .inl (cy 0, 1200, .inl (fun _ => 0))) :: (q6, .inl (cy 0, 160, .inl (fun _ => 0))) :: (q5, .inl (cy 0, 6, .inl (fun _ => 0))) :: (q4, .inl (cy 0, 96, .inl (fun _ => 0))) :: (q3, .inl (cy 0, 30, .inl (fun _ => 0))) :: (q2, .inl (cy 0, 6, .inl (fun _ => 0))) :: (q1, .inl (cy 0, 6, .inl (fun _ => 0))) :: []) := swp_D (a := [(q19, .inl (cy 1, 6, .inr (.inl (fun _ => 0))))]) (b := [(h0, .inr (6, [.int 0, .ref q1, .ref q2, .ref q3, .ref q4, .ref q5, .long 0, .int 0, .ref q6, .int 0, .ref q7, .ref q8, .int 0, .int 0, .int 0, .ref q9, .long 0, .ref q10, .ref q11, .ref q12, .ref q13, .ref q14, .int 0, .int 0, .int 0, .int 0, .ref q15, .ref q16, .int 0, .int 0, .int 0, .ref q17, .ref q18, .ref q19, .int 0, .null, .int 0]))]) hD
  refine lv_aload_n hx hb dX6_init_943 rfl (lv_at hl 0 rfl) ?_
  refine lv_bipush (v := 31) hx hb dX6_init_944 (by decide) ?_
  refine cw_ni C hP hD hS (N := 31) rfl (by decide) (Nat.le_of_ble_eq_true rfl) (Nat.le_of_ble_eq_true rfl) dX6_init_946 (fun q20 H hP hD hS => ?_)
  refine W.widen (k := 20) (n := 2404) (Nat.le_of_ble_eq_true rfl) (Nat.le_of_ble_eq_true rfl) ?_
  refine va_putF (D := D) (ci := 6) (v := .ref q20) (C := RX6) (T := TX6) (N := 37) hx hb hts inT6 tyX6 tyX6_ok nmX6 hown hK hP hD hS 1 rfl rfl 35 (by decide) (hts _ wd_917) (fun _ h9 => h9) rfl hin rfl (tyX6_ok 35 (by decide)) rfl rfl (Nat.le_of_ble_eq_true rfl) dX6_init_948 (fun H locs hP hD hS => ?_)
  replace hP : va_P D vwCl ((q20, .inl (cy 0, 31, .inl (fun _ => 0))) :: (h0, .inr (6, [.int 0, .ref q1, .ref q2, .ref q3, .ref q4, .ref q5, .long 0, .int 0, .ref q6, .int 0, .ref q7, .ref q8, .int 0, .int 0, .int 0, .ref q9, .long 0, .ref q10, .ref q11, .ref q12, .ref q13, .ref q14, .int 0, .int 0, .int 0, .int 0, .ref q15, .ref q16, .int 0, .int 0, .int 0, .ref q17, .ref q18, .ref q19, .int 0, .ref q20, .int 0])) :: (q19, .inl (cy 1, 6, .inr (.inl (fun _ => 0)))) :: (q18, .inl (cy 0, 6, .inl (fun _ => 0))) :: (q17, .inl (cy 0, 200, .inl (fun _ => 0))) :: (q16, .inl (cy 0, 200, .inl (fun _ => 0))) :: (q15, .inl (cy 0, 96, .inl (filF (fun k => nI (wtab.getD k 0)) 96))) :: (q14, .inl (cy 0, 34, .inl (filF (fun k => nI (lawB k)) 34))) :: (q13, .inl (cy 0, 160, .inl (fun _ => 0))) :: (q12, .inl (cy 0, 4, .inl (fun _ => 0))) :: (q11, .inl (cy 0, 4, .inl (filF (fun _ => (-1 : Int32)) 4))) :: (q10, .inl (cy 0, 3, .inl (fun _ => 0))) :: (q9, .inl (cy 0, 132, .inl (fun _ => 0))) :: (q8, .inl (cy 0, 24, .inl (fun _ => 0))) :: (q7, .inl (cy 0, 1200, .inl (fun _ => 0))) :: (q6, .inl (cy 0, 160, .inl (fun _ => 0))) :: (q5, .inl (cy 0, 6, .inl (fun _ => 0))) :: (q4, .inl (cy 0, 96, .inl (fun _ => 0))) :: (q3, .inl (cy 0, 30, .inl (fun _ => 0))) :: (q2, .inl (cy 0, 6, .inl (fun _ => 0))) :: (q1, .inl (cy 0, 6, .inl (fun _ => 0))) :: []) H := hP
  replace hD : va_D A ((q20, .inl (cy 0, 31, .inl (fun _ => 0))) :: (h0, .inr (6, [.int 0, .ref q1, .ref q2, .ref q3, .ref q4, .ref q5, .long 0, .int 0, .ref q6, .int 0, .ref q7, .ref q8, .int 0, .int 0, .int 0, .ref q9, .long 0, .ref q10, .ref q11, .ref q12, .ref q13, .ref q14, .int 0, .int 0, .int 0, .int 0, .ref q15, .ref q16, .int 0, .int 0, .int 0, .ref q17, .ref q18, .ref q19, .int 0, .ref q20, .int 0])) :: (q19, .inl (cy 1, 6, .inr (.inl (fun _ => 0)))) :: (q18, .inl (cy 0, 6, .inl (fun _ => 0))) :: (q17, .inl (cy 0, 200, .inl (fun _ => 0))) :: (q16, .inl (cy 0, 200, .inl (fun _ => 0))) :: (q15, .inl (cy 0, 96, .inl (filF (fun k => nI (wtab.getD k 0)) 96))) :: (q14, .inl (cy 0, 34, .inl (filF (fun k => nI (lawB k)) 34))) :: (q13, .inl (cy 0, 160, .inl (fun _ => 0))) :: (q12, .inl (cy 0, 4, .inl (fun _ => 0))) :: (q11, .inl (cy 0, 4, .inl (filF (fun _ => (-1 : Int32)) 4))) :: (q10, .inl (cy 0, 3, .inl (fun _ => 0))) :: (q9, .inl (cy 0, 132, .inl (fun _ => 0))) :: (q8, .inl (cy 0, 24, .inl (fun _ => 0))) :: (q7, .inl (cy 0, 1200, .inl (fun _ => 0))) :: (q6, .inl (cy 0, 160, .inl (fun _ => 0))) :: (q5, .inl (cy 0, 6, .inl (fun _ => 0))) :: (q4, .inl (cy 0, 96, .inl (fun _ => 0))) :: (q3, .inl (cy 0, 30, .inl (fun _ => 0))) :: (q2, .inl (cy 0, 6, .inl (fun _ => 0))) :: (q1, .inl (cy 0, 6, .inl (fun _ => 0))) :: []) := hD
  replace hP : va_P D vwCl ((h0, .inr (6, [.int 0, .ref q1, .ref q2, .ref q3, .ref q4, .ref q5, .long 0, .int 0, .ref q6, .int 0, .ref q7, .ref q8, .int 0, .int 0, .int 0, .ref q9, .long 0, .ref q10, .ref q11, .ref q12, .ref q13, .ref q14, .int 0, .int 0, .int 0, .int 0, .ref q15, .ref q16, .int 0, .int 0, .int 0, .ref q17, .ref q18, .ref q19, .int 0, .ref q20, .int 0])) :: (q20, .inl (cy 0, 31, .inl (fun _ => 0))) :: (q19, .inl (cy 1, 6, .inr (.inl (fun _ => 0)))) :: (q18, .inl (cy 0, 6, .inl (fun _ => 0))) :: (q17, .inl (cy 0, 200, .inl (fun _ => 0))) :: (q16, .inl (cy 0, 200, .inl (fun _ => 0))) :: (q15, .inl (cy 0, 96, .inl (filF (fun k => nI (wtab.getD k 0)) 96))) :: (q14, .inl (cy 0, 34, .inl (filF (fun k => nI (lawB k)) 34))) :: (q13, .inl (cy 0, 160, .inl (fun _ => 0))) :: (q12, .inl (cy 0, 4, .inl (fun _ => 0))) :: (q11, .inl (cy 0, 4, .inl (filF (fun _ => (-1 : Int32)) 4))) :: (q10, .inl (cy 0, 3, .inl (fun _ => 0))) :: (q9, .inl (cy 0, 132, .inl (fun _ => 0))) :: (q8, .inl (cy 0, 24, .inl (fun _ => 0))) :: (q7, .inl (cy 0, 1200, .inl (fun _ => 0))) :: (q6, .inl (cy 0, 160, .inl (fun _ => 0))) :: (q5, .inl (cy 0, 6, .inl (fun _ => 0))) :: (q4, .inl (cy 0, 96, .inl (fun _ => 0))) :: (q3, .inl (cy 0, 30, .inl (fun _ => 0))) :: (q2, .inl (cy 0, 6, .inl (fun _ => 0))) :: (q1, .inl (cy 0, 6, .inl (fun _ => 0))) :: []) H := swp_P (a := [(q20, .inl (cy 0, 31, .inl (fun _ => 0)))]) (b := [(h0, .inr (6, [.int 0, .ref q1, .ref q2, .ref q3, .ref q4, .ref q5, .long 0, .int 0, .ref q6, .int 0, .ref q7, .ref q8, .int 0, .int 0, .int 0, .ref q9, .long 0, .ref q10, .ref q11, .ref q12, .ref q13, .ref q14, .int 0, .int 0, .int 0, .int 0, .ref q15, .ref q16, .int 0, .int 0, .int 0, .ref q17, .ref q18, .ref q19, .int 0, .ref q20, .int 0]))]) hP
  replace hD : va_D A ((h0, .inr (6, [.int 0, .ref q1, .ref q2, .ref q3, .ref q4, .ref q5, .long 0, .int 0, .ref q6, .int 0, .ref q7, .ref q8, .int 0, .int 0, .int 0, .ref q9, .long 0, .ref q10, .ref q11, .ref q12, .ref q13, .ref q14, .int 0, .int 0, .int 0, .int 0, .ref q15, .ref q16, .int 0, .int 0, .int 0, .ref q17, .ref q18, .ref q19, .int 0, .ref q20, .int 0])) :: (q20, .inl (cy 0, 31, .inl (fun _ => 0))) :: (q19, .inl (cy 1, 6, .inr (.inl (fun _ => 0)))) :: (q18, .inl (cy 0, 6, .inl (fun _ => 0))) :: (q17, .inl (cy 0, 200, .inl (fun _ => 0))) :: (q16, .inl (cy 0, 200, .inl (fun _ => 0))) :: (q15, .inl (cy 0, 96, .inl (filF (fun k => nI (wtab.getD k 0)) 96))) :: (q14, .inl (cy 0, 34, .inl (filF (fun k => nI (lawB k)) 34))) :: (q13, .inl (cy 0, 160, .inl (fun _ => 0))) :: (q12, .inl (cy 0, 4, .inl (fun _ => 0))) :: (q11, .inl (cy 0, 4, .inl (filF (fun _ => (-1 : Int32)) 4))) :: (q10, .inl (cy 0, 3, .inl (fun _ => 0))) :: (q9, .inl (cy 0, 132, .inl (fun _ => 0))) :: (q8, .inl (cy 0, 24, .inl (fun _ => 0))) :: (q7, .inl (cy 0, 1200, .inl (fun _ => 0))) :: (q6, .inl (cy 0, 160, .inl (fun _ => 0))) :: (q5, .inl (cy 0, 6, .inl (fun _ => 0))) :: (q4, .inl (cy 0, 96, .inl (fun _ => 0))) :: (q3, .inl (cy 0, 30, .inl (fun _ => 0))) :: (q2, .inl (cy 0, 6, .inl (fun _ => 0))) :: (q1, .inl (cy 0, 6, .inl (fun _ => 0))) :: []) := swp_D (a := [(q20, .inl (cy 0, 31, .inl (fun _ => 0)))]) (b := [(h0, .inr (6, [.int 0, .ref q1, .ref q2, .ref q3, .ref q4, .ref q5, .long 0, .int 0, .ref q6, .int 0, .ref q7, .ref q8, .int 0, .int 0, .int 0, .ref q9, .long 0, .ref q10, .ref q11, .ref q12, .ref q13, .ref q14, .int 0, .int 0, .int 0, .int 0, .ref q15, .ref q16, .int 0, .int 0, .int 0, .ref q17, .ref q18, .ref q19, .int 0, .ref q20, .int 0]))]) hD
  refine lv_iconst (v := 0) hx hb dX6_init_951 (by decide) ?_
  refine lv_istore_n (lv' := [(1, .int 0), (0, .ref h0)]) hx hb dX6_init_952 rfl hl (by decide) rfl (fun ls hl => ?_)
  replace hP : va_P D vwCl ((q6, .inl (cy 0, 160, .inl (fun _ => 0))) :: (h0, .inr (6, [.int 0, .ref q1, .ref q2, .ref q3, .ref q4, .ref q5, .long 0, .int 0, .ref q6, .int 0, .ref q7, .ref q8, .int 0, .int 0, .int 0, .ref q9, .long 0, .ref q10, .ref q11, .ref q12, .ref q13, .ref q14, .int 0, .int 0, .int 0, .int 0, .ref q15, .ref q16, .int 0, .int 0, .int 0, .ref q17, .ref q18, .ref q19, .int 0, .ref q20, .int 0])) :: (q14, .inl (cy 0, 34, .inl (filF (fun k => nI (lawB k)) 34))) :: (q20, .inl (cy 0, 31, .inl (fun _ => 0))) :: (q19, .inl (cy 1, 6, .inr (.inl (fun _ => 0)))) :: (q18, .inl (cy 0, 6, .inl (fun _ => 0))) :: (q17, .inl (cy 0, 200, .inl (fun _ => 0))) :: (q16, .inl (cy 0, 200, .inl (fun _ => 0))) :: (q15, .inl (cy 0, 96, .inl (filF (fun k => nI (wtab.getD k 0)) 96))) :: (q13, .inl (cy 0, 160, .inl (fun _ => 0))) :: (q12, .inl (cy 0, 4, .inl (fun _ => 0))) :: (q11, .inl (cy 0, 4, .inl (filF (fun _ => (-1 : Int32)) 4))) :: (q10, .inl (cy 0, 3, .inl (fun _ => 0))) :: (q9, .inl (cy 0, 132, .inl (fun _ => 0))) :: (q8, .inl (cy 0, 24, .inl (fun _ => 0))) :: (q7, .inl (cy 0, 1200, .inl (fun _ => 0))) :: (q5, .inl (cy 0, 6, .inl (fun _ => 0))) :: (q4, .inl (cy 0, 96, .inl (fun _ => 0))) :: (q3, .inl (cy 0, 30, .inl (fun _ => 0))) :: (q2, .inl (cy 0, 6, .inl (fun _ => 0))) :: (q1, .inl (cy 0, 6, .inl (fun _ => 0))) :: []) H := hP.sub [15, 0, 7, 1, 2, 3, 4, 5, 6, 8, 9, 10, 11, 12, 13, 14, 16, 17, 18, 19, 20] rfl
  replace hD : va_D A ((q6, .inl (cy 0, 160, .inl (fun _ => 0))) :: (h0, .inr (6, [.int 0, .ref q1, .ref q2, .ref q3, .ref q4, .ref q5, .long 0, .int 0, .ref q6, .int 0, .ref q7, .ref q8, .int 0, .int 0, .int 0, .ref q9, .long 0, .ref q10, .ref q11, .ref q12, .ref q13, .ref q14, .int 0, .int 0, .int 0, .int 0, .ref q15, .ref q16, .int 0, .int 0, .int 0, .ref q17, .ref q18, .ref q19, .int 0, .ref q20, .int 0])) :: (q14, .inl (cy 0, 34, .inl (filF (fun k => nI (lawB k)) 34))) :: (q20, .inl (cy 0, 31, .inl (fun _ => 0))) :: (q19, .inl (cy 1, 6, .inr (.inl (fun _ => 0)))) :: (q18, .inl (cy 0, 6, .inl (fun _ => 0))) :: (q17, .inl (cy 0, 200, .inl (fun _ => 0))) :: (q16, .inl (cy 0, 200, .inl (fun _ => 0))) :: (q15, .inl (cy 0, 96, .inl (filF (fun k => nI (wtab.getD k 0)) 96))) :: (q13, .inl (cy 0, 160, .inl (fun _ => 0))) :: (q12, .inl (cy 0, 4, .inl (fun _ => 0))) :: (q11, .inl (cy 0, 4, .inl (filF (fun _ => (-1 : Int32)) 4))) :: (q10, .inl (cy 0, 3, .inl (fun _ => 0))) :: (q9, .inl (cy 0, 132, .inl (fun _ => 0))) :: (q8, .inl (cy 0, 24, .inl (fun _ => 0))) :: (q7, .inl (cy 0, 1200, .inl (fun _ => 0))) :: (q5, .inl (cy 0, 6, .inl (fun _ => 0))) :: (q4, .inl (cy 0, 96, .inl (fun _ => 0))) :: (q3, .inl (cy 0, 30, .inl (fun _ => 0))) :: (q2, .inl (cy 0, 6, .inl (fun _ => 0))) :: (q1, .inl (cy 0, 6, .inl (fun _ => 0))) :: []) := hD.sub [15, 0, 7, 1, 2, 3, 4, 5, 6, 8, 9, 10, 11, 12, 13, 14, 16, 17, 18, 19, 20] (by decide) rfl
  exact kk q1 q2 q3 q4 q5 q6 q7 q8 q9 q10 q11 q12 q13 q14 q15 q16 q17 q18 q19 q20 H locs ls hP hD hS hl

set_option maxHeartbeats 4000000 in
set_option maxRecDepth 100000 in
theorem x6_copy {l : Launch} {D : va_G} {cy : Nat → ClassId} {zz : (Nat → Nat) × (Nat → Nat)} {h0 tp lw : Nat} {p : Program} {e : Env} {s : State} {m : MethodId} {args : Array Value} {below : List Frame} {meth : Method} {c : Code} {A : Nat → Prop} {Q : State → Prop} {RM : Room} {cells slots : Nat} {fs : List Value} {F : Nat → Int32} {T : va_W} (C : CW p s m args meth c cX6_init 2 RX6 D cy zz A) (hf1 : fs[8]? = some (.ref tp)) (hf2 : fs[21]? = some (.ref lw))
    (kk : ∀ (H : Heap) (locs : List Loc) (ls : Array Slot), va_P D vwCl ((tp, .inl (cy 0, 160, .inl (filF F 34))) :: (h0, .inr (6, fs)) :: (lw, .inl (cy 0, 34, .inl (filF F 34))) :: T) H → va_D A ((tp, .inl (cy 0, 160, .inl (filF F 34))) :: (h0, .inr (6, fs)) :: (lw, .inl (cy 0, 34, .inl (filF F 34))) :: T) → va_S A s.heap H locs → lv_has ls 2 [(1, .int 34), (0, .ref h0)] → W p l e RM s m args below meth c H locs cells slots Q (F0 m 977 ls [])) :
    ∀ (n i : Nat), i + n = 34 → ∀ (H : Heap) (locs : List Loc) (ls : Array Slot), va_P D vwCl ((tp, .inl (cy 0, 160, .inl (filF F i))) :: (h0, .inr (6, fs)) :: (lw, .inl (cy 0, 34, .inl (filF F 34))) :: T) H → va_D A ((tp, .inl (cy 0, 160, .inl (filF F i))) :: (h0, .inr (6, fs)) :: (lw, .inl (cy 0, 34, .inl (filF F 34))) :: T) → va_S A s.heap H locs → lv_has ls 2 [(1, .int (nI i)), (0, .ref h0)] → W p l e RM s m args below meth c H locs cells slots Q (F0 m 953 ls []) := by
  obtain ⟨hx, hb, hml, hown, hts, hlk, hK, hN2, hA, hX⟩ := id C
  intro n
  induction n with
  | zero =>
    intro i hi H locs ls hP hD hS hl
    have e : i = 34 := hi
    subst e
    refine lv_iload_n hx hb dX6_init_953 rfl (lv_at hl 0 rfl) ?_
    refine lv_bipush (v := 34) hx hb dX6_init_954 (by decide) ?_
    refine lv_icmp_ge (tgt := 977) hx hb dX6_init_956 (by decide) (fun _ => ?_) (fun z => absurd (show (34 : Int32) ≤ nI 34 by decide) z)
    exact kk H locs ls hP hD hS hl
  | succ n ih =>
    intro i hi H locs ls hP hD hS hl
    have hi34 : i < 34 := by omega
    refine lv_iload_n hx hb dX6_init_953 rfl (lv_at hl 0 rfl) ?_
    refine lv_bipush (v := 34) hx hb dX6_init_954 (by decide) ?_
    refine lv_icmp_ge (tgt := 977) hx hb dX6_init_956 (by decide) (fun z => ?_) (fun _ => ?_)
    · have z' : nI 34 ≤ nI i := z
      rw [nI_leI (by omega) (by omega)] at z'
      omega
    · refine lv_aload_n hx hb dX6_init_959 rfl (lv_at hl 1 rfl) ?_
      refine va_get (D := D) (ci := 6) (v := .ref tp) (C := RX6) (T := TX6) (N := 37) hx hb hts inT6 hown hK hP 1 rfl rfl 8 (by decide) (hts _ wd_890) (fun _ h9 => h9) hf1 dX6_init_960 ?_
      refine lv_iload_n hx hb dX6_init_963 rfl (lv_at hl 0 rfl) ?_
      refine lv_aload_n hx hb dX6_init_964 rfl (lv_at hl 1 rfl) ?_
      refine va_get (D := D) (ci := 6) (v := .ref lw) (C := RX6) (T := TX6) (N := 37) hx hb hts inT6 hown hK hP 1 rfl rfl 21 (by decide) (hts _ wd_903) (fun _ h9 => h9) hf2 dX6_init_965 ?_
      refine lv_iload_n hx hb dX6_init_968 rfl (lv_at hl 0 rfl) ?_
      refine va_iald hx hb hK hP 2 0 rfl rfl (fun z => ?_) dX6_init_969 ?_
      · rcases z with z | z
        · exact nI_pos (by omega) z
        · rw [nI_clamp (by omega)] at z
          omega
      · rw [nI_clamp (show i < 2 ^ 31 by omega)]
        refine cw_fill C hP hD hS rfl (show filF F 34 i = F i from if_pos hi34) (by omega) (by decide) dX6_init_970 (fun H locs hP hD hS => ?_)
        refine lv_iinc (v := nI (i + 1)) (lv' := [(1, .int (nI (i + 1))), (0, .ref h0)]) hx hb dX6_init_971 hl (k := 0) rfl (nI_1 i) (by decide) rfl (fun ls hl => ?_)
        refine lv_goto (tgt := 953) hx hb dX6_init_974 (by decide) ?_
        exact ih (i + 1) (by omega) H locs ls hP hD hS hl
