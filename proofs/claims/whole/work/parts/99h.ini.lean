/-! L3: the small constructors -/
def iaE (cy : Nat → ClassId) (N : Nat) : va_E := .inl (cy 0, N, .inl (fun _ => 0))
def slE (q : Nat) : va_E := .inr (2, [.int 0, .int 0, .int 0, .int 0, .int 0, .int 0, .int 99, .int 1, .long 0, .ref q])
def txE (d w n st : Nat) : va_E := .inr (3, [.ref d, .ref w, .ref n, .ref st, .int 0])
def shE (q : Nat) : va_E := .inr (1, [.int (-1), .int 0, .ref q])
def rdE (tp t : Nat) : va_E := .inr (0, [.ref tp, .int 0, .int 0, .int 0, .int 0, .int 0, .ref t])

set_option maxHeartbeats 4000000 in
set_option maxRecDepth 100000 in
/-- Sleeper(): a sock comes -/
theorem c_X2_init {l : Launch} {D : va_G} {cy : Nat → ClassId} {zz : (Nat → Nat) × (Nat → Nat)} {h0 : Nat}  : CTn (S := Nat) l D cy zz yX2_init (.code yX2_init cX2_init 1 none :: tb) ({ frames := 1, cells := 1, slots := 16, locals := 12 } : Room) [] h0 (.inr (2, [.int 0, .int 0, .int 0, .int 0, .int 0, .int 0, .int 0, .int 0, .long 0, .null])) 1 16 (fun _ => True) (fun q => [(q, iaE cy 16), (h0, slE q)]) := by
  refine CTn.of (by decide +kernel) rfl (fun sz p e s m args below meth c H ls C hr hin hP hD hS hl => ?_) (Nat.le_of_ble_eq_true rfl)
  obtain ⟨hx, hb, hml, hown, hts, hlk, hK, hN2, hA, hX⟩ := id C
  have hl : lv_has ls 1 [(0, .ref h0)] := hl
  refine lv_aload_n hx hb dX2_init_0 rfl (lv_at hl 0 rfl) ?_
  refine cw_obj C wd_99 hl.1 (Nat.le_of_ble_eq_true rfl) (Nat.le_of_ble_eq_true rfl) dX2_init_1 ?_
  refine lv_aload_n hx hb dX2_init_4 rfl (lv_at hl 0 rfl) ?_
  refine lv_bipush (v := 99) hx hb dX2_init_5 (by decide) ?_
  refine va_put (D := D) (ci := 2) (v := .int 99) (C := RX2) (T := TX2) (N := 10) hx hb hts inT2 tyX2 tyX2_ok nmX2 hown hK hP hD hS 0 rfl rfl 6 (by decide) (hts _ wd_113) (fun _ h9 => h9) rfl (tyX2_ok 6 (by decide)) rfl rfl (Nat.le_of_ble_eq_true rfl) dX2_init_7 (fun H locs hP hD hS => ?_)
  replace hP : va_P D vwCl ((h0, .inr (2, [.int 0, .int 0, .int 0, .int 0, .int 0, .int 0, .int 99, .int 0, .long 0, .null])) :: []) H := hP
  replace hD : va_D (va_A [(h0, .inr (2, [.int 0, .int 0, .int 0, .int 0, .int 0, .int 0, .int 0, .int 0, .long 0, .null]))] sz) ((h0, .inr (2, [.int 0, .int 0, .int 0, .int 0, .int 0, .int 0, .int 99, .int 0, .long 0, .null])) :: []) := hD
  refine lv_aload_n hx hb dX2_init_10 rfl (lv_at hl 0 rfl) ?_
  refine lv_iconst (v := 1) hx hb dX2_init_11 (by decide) ?_
  refine va_put (D := D) (ci := 2) (v := .int 1) (C := RX2) (T := TX2) (N := 10) hx hb hts inT2 tyX2 tyX2_ok nmX2 hown hK hP hD hS 0 rfl rfl 7 (by decide) (hts _ wd_115) (fun _ h9 => h9) rfl (tyX2_ok 7 (by decide)) rfl rfl (Nat.le_of_ble_eq_true rfl) dX2_init_12 (fun H locs hP hD hS => ?_)
  replace hP : va_P D vwCl ((h0, .inr (2, [.int 0, .int 0, .int 0, .int 0, .int 0, .int 0, .int 99, .int 1, .long 0, .null])) :: []) H := hP
  replace hD : va_D (va_A [(h0, .inr (2, [.int 0, .int 0, .int 0, .int 0, .int 0, .int 0, .int 0, .int 0, .long 0, .null]))] sz) ((h0, .inr (2, [.int 0, .int 0, .int 0, .int 0, .int 0, .int 0, .int 99, .int 1, .long 0, .null])) :: []) := hD
  refine lv_aload_n hx hb dX2_init_15 rfl (lv_at hl 0 rfl) ?_
  refine lv_bipush (v := 16) hx hb dX2_init_16 (by decide) ?_
  refine cw_ni C hP hD hS (N := 16) rfl (by decide) (Nat.le_of_ble_eq_true rfl) (Nat.le_of_ble_eq_true rfl) dX2_init_18 (fun q H hP hD hS => ?_)
  refine W.widen (k := 1) (n := 16) (Nat.le_of_ble_eq_true rfl) (Nat.le_of_ble_eq_true rfl) ?_
  refine va_putF (D := D) (ci := 2) (v := .ref q) (C := RX2) (T := TX2) (N := 10) hx hb hts inT2 tyX2 tyX2_ok nmX2 hown hK hP hD hS 1 rfl rfl 9 (by decide) (hts _ wd_119) (fun _ h9 => h9) rfl hin rfl (tyX2_ok 9 (by decide)) rfl rfl (Nat.le_of_ble_eq_true rfl) dX2_init_20 (fun H locs hP hD hS => ?_)
  replace hP : va_P D vwCl ((q, .inl (cy 0, 16, .inl (fun _ => 0))) :: (h0, .inr (2, [.int 0, .int 0, .int 0, .int 0, .int 0, .int 0, .int 99, .int 1, .long 0, .ref q])) :: []) H := hP
  replace hD : va_D (va_A [(h0, .inr (2, [.int 0, .int 0, .int 0, .int 0, .int 0, .int 0, .int 0, .int 0, .long 0, .null]))] sz) ((q, .inl (cy 0, 16, .inl (fun _ => 0))) :: (h0, .inr (2, [.int 0, .int 0, .int 0, .int 0, .int 0, .int 0, .int 99, .int 1, .long 0, .ref q])) :: []) := hD
  exact cw_ret C hr (q) trivial hP hD hS dX2_init_23

set_option maxHeartbeats 4000000 in
set_option maxRecDepth 100000 in
/-- Sheet(): its numbers come -/
theorem c_X1_init {l : Launch} {D : va_G} {cy : Nat → ClassId} {zz : (Nat → Nat) × (Nat → Nat)} {h0 : Nat}  : CTn (S := Nat) l D cy zz yX1_init (.code yX1_init cX1_init 1 none :: tb) ({ frames := 1, cells := 1, slots := 40, locals := 12 } : Room) [] h0 (.inr (1, [.int 0, .int 0, .null])) 1 40 (fun _ => True) (fun q => [(q, iaE cy 40), (h0, shE q)]) := by
  refine CTn.of (by decide +kernel) rfl (fun sz p e s m args below meth c H ls C hr hin hP hD hS hl => ?_) (Nat.le_of_ble_eq_true rfl)
  obtain ⟨hx, hb, hml, hown, hts, hlk, hK, hN2, hA, hX⟩ := id C
  have hl : lv_has ls 1 [(0, .ref h0)] := hl
  refine lv_aload_n hx hb dX1_init_0 rfl (lv_at hl 0 rfl) ?_
  refine cw_obj C wd_195 hl.1 (Nat.le_of_ble_eq_true rfl) (Nat.le_of_ble_eq_true rfl) dX1_init_1 ?_
  refine lv_aload_n hx hb dX1_init_4 rfl (lv_at hl 0 rfl) ?_
  refine lv_iconst (v := (-1)) hx hb dX1_init_5 (by decide) ?_
  refine va_put (D := D) (ci := 1) (v := .int (-1)) (C := RX1) (T := TX1) (N := 3) hx hb hts inT1 tyX1 tyX1_ok nmX1 hown hK hP hD hS 0 rfl rfl 0 (by decide) (hts _ wd_196) (fun _ h9 => h9) rfl (tyX1_ok 0 (by decide)) rfl rfl (Nat.le_of_ble_eq_true rfl) dX1_init_6 (fun H locs hP hD hS => ?_)
  replace hP : va_P D vwCl ((h0, .inr (1, [.int (-1), .int 0, .null])) :: []) H := hP
  replace hD : va_D (va_A [(h0, .inr (1, [.int 0, .int 0, .null]))] sz) ((h0, .inr (1, [.int (-1), .int 0, .null])) :: []) := hD
  refine lv_aload_n hx hb dX1_init_9 rfl (lv_at hl 0 rfl) ?_
  refine lv_bipush (v := 40) hx hb dX1_init_10 (by decide) ?_
  refine cw_ni C hP hD hS (N := 40) rfl (by decide) (Nat.le_of_ble_eq_true rfl) (Nat.le_of_ble_eq_true rfl) dX1_init_12 (fun q H hP hD hS => ?_)
  refine W.widen (k := 1) (n := 40) (Nat.le_of_ble_eq_true rfl) (Nat.le_of_ble_eq_true rfl) ?_
  refine va_putF (D := D) (ci := 1) (v := .ref q) (C := RX1) (T := TX1) (N := 3) hx hb hts inT1 tyX1 tyX1_ok nmX1 hown hK hP hD hS 1 rfl rfl 2 (by decide) (hts _ wd_201) (fun _ h9 => h9) rfl hin rfl (tyX1_ok 2 (by decide)) rfl rfl (Nat.le_of_ble_eq_true rfl) dX1_init_14 (fun H locs hP hD hS => ?_)
  replace hP : va_P D vwCl ((q, .inl (cy 0, 40, .inl (fun _ => 0))) :: (h0, .inr (1, [.int (-1), .int 0, .ref q])) :: []) H := hP
  replace hD : va_D (va_A [(h0, .inr (1, [.int 0, .int 0, .null]))] sz) ((q, .inl (cy 0, 40, .inl (fun _ => 0))) :: (h0, .inr (1, [.int (-1), .int 0, .ref q])) :: []) := hD
  exact cw_ret C hr (q) trivial hP hD hS dX1_init_17

set_option maxHeartbeats 4000000 in
set_option maxRecDepth 100000 in
/-- Text(stack): three rows come -/
theorem c_X3_init {l : Launch} {D : va_G} {cy : Nat → ClassId} {zz : (Nat → Nat) × (Nat → Nat)} {h0 : Nat} {st : Nat} : CTn (S := Nat × Nat × Nat) l D cy zz yX3_init (.code yX3_init cX3_init 2 none :: tb) ({ frames := 1, cells := 3, slots := 323, locals := 12 } : Room) [.ref st] h0 (.inr (3, [.null, .null, .null, .null, .int 0])) 3 323 (fun _ => True) (fun u => [(u.2.2, iaE cy 3), (u.2.1, iaE cy 160), (u.1, iaE cy 160), (h0, txE u.1 u.2.1 u.2.2 st)]) := by
  refine CTn.of (by decide +kernel) rfl (fun sz p e s m args below meth c H ls C hr hin hP hD hS hl => ?_) (Nat.le_of_ble_eq_true rfl)
  obtain ⟨hx, hb, hml, hown, hts, hlk, hK, hN2, hA, hX⟩ := id C
  have hl : lv_has ls 2 [(0, .ref h0), (1, .ref st)] := hl
  refine lv_aload_n hx hb dX3_init_0 rfl (lv_at hl 0 rfl) ?_
  refine cw_obj C wd_172 hl.1 (Nat.le_of_ble_eq_true rfl) (Nat.le_of_ble_eq_true rfl) dX3_init_1 ?_
  refine lv_aload_n hx hb dX3_init_4 rfl (lv_at hl 0 rfl) ?_
  refine lv_sipush (v := 160) hx hb dX3_init_5 (by decide) ?_
  refine cw_ni C hP hD hS (N := 160) rfl (by decide) (Nat.le_of_ble_eq_true rfl) (Nat.le_of_ble_eq_true rfl) dX3_init_8 (fun d H hP hD hS => ?_)
  refine W.widen (k := 1) (n := 160) (Nat.le_of_ble_eq_true rfl) (Nat.le_of_ble_eq_true rfl) ?_
  refine va_putF (D := D) (ci := 3) (v := .ref d) (C := RX3) (T := TX3) (N := 5) hx hb hts inT3 tyX3 tyX3_ok nmX3 hown hK hP hD hS 1 rfl rfl 0 (by decide) (hts _ wd_173) (fun _ h9 => h9) rfl hin rfl (tyX3_ok 0 (by decide)) rfl rfl (Nat.le_of_ble_eq_true rfl) dX3_init_10 (fun H locs hP hD hS => ?_)
  replace hP : va_P D vwCl ((d, .inl (cy 0, 160, .inl (fun _ => 0))) :: (h0, .inr (3, [.ref d, .null, .null, .null, .int 0])) :: []) H := hP
  replace hD : va_D (va_A [(h0, .inr (3, [.null, .null, .null, .null, .int 0]))] sz) ((d, .inl (cy 0, 160, .inl (fun _ => 0))) :: (h0, .inr (3, [.ref d, .null, .null, .null, .int 0])) :: []) := hD
  refine lv_aload_n hx hb dX3_init_13 rfl (lv_at hl 0 rfl) ?_
  refine lv_sipush (v := 160) hx hb dX3_init_14 (by decide) ?_
  refine cw_ni C hP hD hS (N := 160) rfl (by decide) (Nat.le_of_ble_eq_true rfl) (Nat.le_of_ble_eq_true rfl) dX3_init_17 (fun w H hP hD hS => ?_)
  refine W.widen (k := 2) (n := 320) (Nat.le_of_ble_eq_true rfl) (Nat.le_of_ble_eq_true rfl) ?_
  refine va_putF (D := D) (ci := 3) (v := .ref w) (C := RX3) (T := TX3) (N := 5) hx hb hts inT3 tyX3 tyX3_ok nmX3 hown hK hP hD hS 2 rfl rfl 1 (by decide) (hts _ wd_174) (fun _ h9 => h9) rfl hin rfl (tyX3_ok 1 (by decide)) rfl rfl (Nat.le_of_ble_eq_true rfl) dX3_init_19 (fun H locs hP hD hS => ?_)
  replace hP : va_P D vwCl ((w, .inl (cy 0, 160, .inl (fun _ => 0))) :: (d, .inl (cy 0, 160, .inl (fun _ => 0))) :: (h0, .inr (3, [.ref d, .ref w, .null, .null, .int 0])) :: []) H := hP
  replace hD : va_D (va_A [(h0, .inr (3, [.null, .null, .null, .null, .int 0]))] sz) ((w, .inl (cy 0, 160, .inl (fun _ => 0))) :: (d, .inl (cy 0, 160, .inl (fun _ => 0))) :: (h0, .inr (3, [.ref d, .ref w, .null, .null, .int 0])) :: []) := hD
  refine lv_aload_n hx hb dX3_init_22 rfl (lv_at hl 0 rfl) ?_
  refine lv_iconst (v := 3) hx hb dX3_init_23 (by decide) ?_
  refine cw_ni C hP hD hS (N := 3) rfl (by decide) (Nat.le_of_ble_eq_true rfl) (Nat.le_of_ble_eq_true rfl) dX3_init_24 (fun n H hP hD hS => ?_)
  refine W.widen (k := 3) (n := 323) (Nat.le_of_ble_eq_true rfl) (Nat.le_of_ble_eq_true rfl) ?_
  refine va_putF (D := D) (ci := 3) (v := .ref n) (C := RX3) (T := TX3) (N := 5) hx hb hts inT3 tyX3 tyX3_ok nmX3 hown hK hP hD hS 3 rfl rfl 2 (by decide) (hts _ wd_175) (fun _ h9 => h9) rfl hin rfl (tyX3_ok 2 (by decide)) rfl rfl (Nat.le_of_ble_eq_true rfl) dX3_init_26 (fun H locs hP hD hS => ?_)
  replace hP : va_P D vwCl ((n, .inl (cy 0, 3, .inl (fun _ => 0))) :: (w, .inl (cy 0, 160, .inl (fun _ => 0))) :: (d, .inl (cy 0, 160, .inl (fun _ => 0))) :: (h0, .inr (3, [.ref d, .ref w, .ref n, .null, .int 0])) :: []) H := hP
  replace hD : va_D (va_A [(h0, .inr (3, [.null, .null, .null, .null, .int 0]))] sz) ((n, .inl (cy 0, 3, .inl (fun _ => 0))) :: (w, .inl (cy 0, 160, .inl (fun _ => 0))) :: (d, .inl (cy 0, 160, .inl (fun _ => 0))) :: (h0, .inr (3, [.ref d, .ref w, .ref n, .null, .int 0])) :: []) := hD
  refine lv_aload_n hx hb dX3_init_29 rfl (lv_at hl 0 rfl) ?_
  refine lv_aload_n hx hb dX3_init_30 rfl (lv_at hl 1 rfl) ?_
  refine va_putF (D := D) (ci := 3) (v := .ref st) (C := RX3) (T := TX3) (N := 5) hx hb hts inT3 tyX3 tyX3_ok nmX3 hown hK hP hD hS 3 rfl rfl 3 (by decide) (hts _ wd_177) (fun _ h9 => h9) rfl hin rfl (tyX3_ok 3 (by decide)) rfl rfl (Nat.le_of_ble_eq_true rfl) dX3_init_31 (fun H locs hP hD hS => ?_)
  replace hP : va_P D vwCl ((n, .inl (cy 0, 3, .inl (fun _ => 0))) :: (w, .inl (cy 0, 160, .inl (fun _ => 0))) :: (d, .inl (cy 0, 160, .inl (fun _ => 0))) :: (h0, .inr (3, [.ref d, .ref w, .ref n, .ref st, .int 0])) :: []) H := hP
  replace hD : va_D (va_A [(h0, .inr (3, [.null, .null, .null, .null, .int 0]))] sz) ((n, .inl (cy 0, 3, .inl (fun _ => 0))) :: (w, .inl (cy 0, 160, .inl (fun _ => 0))) :: (d, .inl (cy 0, 160, .inl (fun _ => 0))) :: (h0, .inr (3, [.ref d, .ref w, .ref n, .ref st, .int 0])) :: []) := hD
  exact cw_ret C hr ((d, w, n)) trivial hP hD hS dX3_init_34

set_option maxHeartbeats 4000000 in
set_option maxRecDepth 100000 in
/-- Reader(tape, text) -/
theorem c_X0_init {l : Launch} {D : va_G} {cy : Nat → ClassId} {zz : (Nat → Nat) × (Nat → Nat)} {h0 : Nat} {tp : Nat} {t : Nat} : CTn (S := Unit) l D cy zz yX0_init (.code yX0_init cX0_init 3 none :: tb) ({ frames := 1, cells := 0, slots := 0, locals := 12 } : Room) [.ref tp, .ref t] h0 (.inr (0, [.null, .int 0, .int 0, .int 0, .int 0, .int 0, .null])) 0 0 (fun _ => True) (fun _ => [(h0, rdE tp t)]) := by
  refine CTn.of (by decide +kernel) rfl (fun sz p e s m args below meth c H ls C hr hin hP hD hS hl => ?_) (Nat.le_of_ble_eq_true rfl)
  obtain ⟨hx, hb, hml, hown, hts, hlk, hK, hN2, hA, hX⟩ := id C
  have hl : lv_has ls 3 [(0, .ref h0), (1, .ref tp), (2, .ref t)] := hl
  refine lv_aload_n hx hb dX0_init_0 rfl (lv_at hl 0 rfl) ?_
  refine cw_obj C wd_267 hl.1 (Nat.le_of_ble_eq_true rfl) (Nat.le_of_ble_eq_true rfl) dX0_init_1 ?_
  refine lv_aload_n hx hb dX0_init_4 rfl (lv_at hl 0 rfl) ?_
  refine lv_aload_n hx hb dX0_init_5 rfl (lv_at hl 1 rfl) ?_
  refine va_putF (D := D) (ci := 0) (v := .ref tp) (C := RX0) (T := TX0) (N := 7) hx hb hts inT0 tyX0 tyX0_ok nmX0 hown hK hP hD hS 0 rfl rfl 0 (by decide) (hts _ wd_268) (fun _ h9 => h9) rfl hin rfl (tyX0_ok 0 (by decide)) rfl rfl (Nat.le_of_ble_eq_true rfl) dX0_init_6 (fun H locs hP hD hS => ?_)
  replace hP : va_P D vwCl ((h0, .inr (0, [.ref tp, .int 0, .int 0, .int 0, .int 0, .int 0, .null])) :: []) H := hP
  replace hD : va_D (va_A [(h0, .inr (0, [.null, .int 0, .int 0, .int 0, .int 0, .int 0, .null]))] sz) ((h0, .inr (0, [.ref tp, .int 0, .int 0, .int 0, .int 0, .int 0, .null])) :: []) := hD
  refine lv_aload_n hx hb dX0_init_9 rfl (lv_at hl 0 rfl) ?_
  refine lv_aload_n hx hb dX0_init_10 rfl (lv_at hl 2 rfl) ?_
  refine va_put (D := D) (ci := 0) (v := .ref t) (C := RX0) (T := TX0) (N := 7) hx hb hts inT0 tyX0 tyX0_ok nmX0 hown hK hP hD hS 0 rfl rfl 6 (by decide) (hts _ wd_274) (fun _ h9 => h9) rfl (tyX0_ok 6 (by decide)) rfl rfl (Nat.le_of_ble_eq_true rfl) dX0_init_11 (fun H locs hP hD hS => ?_)
  replace hP : va_P D vwCl ((h0, .inr (0, [.ref tp, .int 0, .int 0, .int 0, .int 0, .int 0, .ref t])) :: []) H := hP
  replace hD : va_D (va_A [(h0, .inr (0, [.null, .int 0, .int 0, .int 0, .int 0, .int 0, .null]))] sz) ((h0, .inr (0, [.ref tp, .int 0, .int 0, .int 0, .int 0, .int 0, .ref t])) :: []) := hD
  exact cw_ret C hr (()) trivial hP hD hS dX0_init_14
