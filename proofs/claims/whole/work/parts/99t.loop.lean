/-! L3: the law's loop, and the law from its entry -/
theorem cmp7 {L i : Nat} (hL : L ≤ 3584) (hi : i ≤ 4000) : (Int32.ofNat L - 7 < nI i) ↔ L < i + 7 := by
  show nI L - 7 < nI i ↔ _
  by_cases h : 7 ≤ L
  · have e : nI L - 7 = nI (L - 7) := by
      have e1 : nI (L - 7) + 7 = nI L := by
        have := nI_add (L - 7) 7
        rw [show L - 7 + 7 = L by omega] at this
        exact this
      rw [← e1, Int32.add_sub_cancel]
    rw [e, nI_ltI (by omega) (by omega)]
    omega
  · have n7 : ∀ k, k < 7 → nI k - 7 < 0 := by decide +kernel
    refine ⟨fun _ => by omega, fun _ => Int32.lt_of_lt_of_le (n7 L (by omega)) (nI_pos' (by omega))⟩
section LAW
variable {p : Program} {l : Launch} {e : Env} {s : State} {m : MethodId} {below : List Frame} {meth : Method} {c : Code} {Q : State → Prop} {D : va_G} {cy : Nat → ClassId} {zz : (Nat → Nat) × (Nat → Nat)} {b L : Nat} {xs : Nat → Int32} {cells slots : Nat}
set_option maxHeartbeats 4000000 in
set_option maxRecDepth 100000 in
theorem law_loop (C : CW p s m #[Value.ref b] meth c cL_law 4 RL D cy zz (fun q => s.heap.size ≤ q)) (hX : va_X b L xs s s.heap) (hbl : b < s.heap.size) (hL : L ≤ 3584) (hc : cells ≤ room_1.cells ∧ slots ≤ room_1.slots) (hr : meth.sig.returnType = ret) {ad ae : Nat → Nat} :
    ∀ (n i : Nat), L < i + 7 * (n + 1) → i ≤ L + 7 → ∀ (M R : Mem), Sim M R → ∀ (H : Heap) (locs : List Loc) (ls : Array Slot), va_P D vwCl (pool cy ad 0 82 M ++ pool cy ae 100 21 R) H → va_D (fun q => s.heap.size ≤ q) (pool cy ad 0 82 M ++ pool cy ae 100 21 R) → va_S (fun q => s.heap.size ≤ q) s.heap H locs → lv_has ls 4 [(3, .int (nI i)), (2, .ref (ae 100)), (1, .ref (ad 0)), (0, .ref b)] → W p l e room_1 s m #[Value.ref b] below meth c H locs cells slots (lw_Z below #[Value.ref b] s) (F0 m 18 ls []) := by
  obtain ⟨hx, hb, hml, hown, hts, hlk, hK, hN2, hA, hX2⟩ := id C
  have fin : ∀ (H : Heap) (locs : List Loc) (ls : Array Slot), va_S (fun q => s.heap.size ≤ q) s.heap H locs → W p l e room_1 s m #[Value.ref b] below meth c H locs cells slots (lw_Z below #[Value.ref b] s) (F0 m 1566 ls []) := by
    intro H locs ls hS
    refine lv_iconst (v := 1) hx hb dL_law_1566 (by decide) ?_
    refine va_forget (fun q hq => hS.2.2 q hq) ?_
    refine W.widen (k := 600000) (n := 7302250) hc.1 hc.2 ?_
    exact lw_ret hx hb hr hlk dL_law_1567
  intro n
  induction n with
  | zero =>
    intro i hn hi M R h H locs ls hP hD hS hl
    refine lv_iload_n hx hb dL_law_18 rfl (lv_at hl 0 rfl) ?_
    refine lv_aload_n hx hb dL_law_19 rfl (lv_at hl 3 rfl) ?_
    refine va_slen hx hb hX hbl (Nat.not_le.mpr hbl) hS dL_law_20 ?_
    refine lv_bipush (v := 7) hx hb dL_law_21 (by decide) ?_
    refine lv_isub hx hb dL_law_23 ?_
    refine lv_icmp_gt (tgt := 1566) hx hb dL_law_24 (by decide) (fun _ => fin H locs ls hS) (fun z => absurd ((cmp7 hL (by omega)).mpr (by omega)) z)
  | succ n ih =>
    intro i hn hi M R h H locs ls hP hD hS hl
    refine lv_iload_n hx hb dL_law_18 rfl (lv_at hl 0 rfl) ?_
    refine lv_aload_n hx hb dL_law_19 rfl (lv_at hl 3 rfl) ?_
    refine va_slen hx hb hX hbl (Nat.not_le.mpr hbl) hS dL_law_20 ?_
    refine lv_bipush (v := 7) hx hb dL_law_21 (by decide) ?_
    refine lv_isub hx hb dL_law_23 ?_
    refine lv_icmp_gt (tgt := 1566) hx hb dL_law_24 (by decide) (fun _ => fin H locs ls hS) (fun z => ?_)
    have hi7 : i + 7 ≤ L := Nat.le_of_not_lt fun q => z ((cmp7 hL (by omega)).mpr q)
    have go : ∀ (M R : Mem) (H : Heap) (locs : List Loc), Sim M R → va_P D vwCl (pool cy ad 0 82 M ++ pool cy ae 100 21 R) H → va_D (fun q => s.heap.size ≤ q) (pool cy ad 0 82 M ++ pool cy ae 100 21 R) → va_S (fun q => s.heap.size ≤ q) s.heap H locs → W p l e room_1 s m #[Value.ref b] below meth c H locs cells slots (lw_Z below #[Value.ref b] s) (F0 m 1560 ls []) := by
      intro M R H locs h hP hD hS
      refine lv_iinc (v := nI (i + 7)) (lv' := [(3, .int (nI (i + 7))), (2, .ref (ae 100)), (1, .ref (ad 0)), (0, .ref b)]) hx hb dL_law_1560 hl (k := 0) rfl (nI_add i 7) (by decide) rfl (fun ls hl => ?_)
      refine lv_goto (tgt := 18) hx hb dL_law_1563 (by decide) ?_
      exact ih (i + 7) (by omega) (by omega) M R h H locs ls hP hD hS hl
    refine lv_aload_n hx hb dL_law_27 rfl (lv_at hl 3 rfl) ?_
    refine lv_iload_n hx hb dL_law_28 rfl (lv_at hl 0 rfl) ?_
    refine ld_s (j := i) C hX hbl hS hL (by omega) rfl dL_law_29 ?_
    refine lv_bipush (v := 63) hx hb dL_law_30 (by decide) ?_
    refine lv_iand hx hb dL_law_32 ?_
    generalize xs i &&& 63 = v
    by_cases c0 : v.toInt = 0
    · exact lv_tableIn (off := 167) (tgt := 200) hx hb dL_law_33 (by rw [c0]; decide) (by rw [c0]; decide) (by rw [c0]; rfl) (by decide) (lc_0 C hX hbl hL hi7 h hc hP hD hS hl go)
    by_cases c1 : v.toInt = 1
    · exact lv_tableIn (off := 190) (tgt := 223) hx hb dL_law_33 (by rw [c1]; decide) (by rw [c1]; decide) (by rw [c1]; rfl) (by decide) (lc_1 C hX hbl hL hi7 h hc hP hD hS hl go)
    by_cases c2 : v.toInt = 2
    · exact lv_tableIn (off := 213) (tgt := 246) hx hb dL_law_33 (by rw [c2]; decide) (by rw [c2]; decide) (by rw [c2]; rfl) (by decide) (lc_2 C hX hbl hL hi7 h hc hP hD hS hl go)
    by_cases c3 : v.toInt = 3
    · exact lv_tableIn (off := 246) (tgt := 279) hx hb dL_law_33 (by rw [c3]; decide) (by rw [c3]; decide) (by rw [c3]; rfl) (by decide) (lc_3 C hX hbl hL hi7 h hc hP hD hS hl go)
    by_cases c4 : v.toInt = 4
    · exact lv_tableIn (off := 321) (tgt := 354) hx hb dL_law_33 (by rw [c4]; decide) (by rw [c4]; decide) (by rw [c4]; rfl) (by decide) (lc_4 C hX hbl hL hi7 h hc hP hD hS hl go)
    by_cases c5 : v.toInt = 5
    · exact lv_tableIn (off := 334) (tgt := 367) hx hb dL_law_33 (by rw [c5]; decide) (by rw [c5]; decide) (by rw [c5]; rfl) (by decide) (lc_5 C hX hbl hL hi7 h hc hP hD hS hl go)
    by_cases c6 : v.toInt = 6
    · exact lv_tableIn (off := 357) (tgt := 390) hx hb dL_law_33 (by rw [c6]; decide) (by rw [c6]; decide) (by rw [c6]; rfl) (by decide) (lc_6 C hX hbl hL hi7 h hc hP hD hS hl go)
    by_cases c7 : v.toInt = 7
    · exact lv_tableIn (off := 390) (tgt := 423) hx hb dL_law_33 (by rw [c7]; decide) (by rw [c7]; decide) (by rw [c7]; rfl) (by decide) (lc_7 C hX hbl hL hi7 h hc hP hD hS hl go)
    by_cases c8 : v.toInt = 8
    · exact lv_tableIn (off := 423) (tgt := 456) hx hb dL_law_33 (by rw [c8]; decide) (by rw [c8]; decide) (by rw [c8]; rfl) (by decide) (lc_8 C hX hbl hL hi7 h hc hP hD hS hl go)
    by_cases c9 : v.toInt = 9
    · exact lv_tableIn (off := 466) (tgt := 499) hx hb dL_law_33 (by rw [c9]; decide) (by rw [c9]; decide) (by rw [c9]; rfl) (by decide) (lc_9 C hX hbl hL hi7 h hc hP hD hS hl go)
    by_cases c10 : v.toInt = 10
    · exact lv_tableIn (off := 499) (tgt := 532) hx hb dL_law_33 (by rw [c10]; decide) (by rw [c10]; decide) (by rw [c10]; rfl) (by decide) (lc_10 C hX hbl hL hi7 h hc hP hD hS hl go)
    by_cases c11 : v.toInt = 11
    · exact lv_tableIn (off := 532) (tgt := 565) hx hb dL_law_33 (by rw [c11]; decide) (by rw [c11]; decide) (by rw [c11]; rfl) (by decide) (lc_11 C hX hbl hL hi7 h hc hP hD hS hl go)
    by_cases c12 : v.toInt = 12
    · exact lv_tableIn (off := 575) (tgt := 608) hx hb dL_law_33 (by rw [c12]; decide) (by rw [c12]; decide) (by rw [c12]; rfl) (by decide) (lc_12 C hX hbl hL hi7 h hc hP hD hS hl go)
    by_cases c13 : v.toInt = 13
    · exact lv_tableIn (off := 588) (tgt := 621) hx hb dL_law_33 (by rw [c13]; decide) (by rw [c13]; decide) (by rw [c13]; rfl) (by decide) (lc_13 C hX hbl hL hi7 h hc hP hD hS hl go)
    by_cases c14 : v.toInt = 14
    · exact lv_tableIn (off := 621) (tgt := 654) hx hb dL_law_33 (by rw [c14]; decide) (by rw [c14]; decide) (by rw [c14]; rfl) (by decide) (lc_14 C hX hbl hL hi7 h hc hP hD hS hl go)
    by_cases c15 : v.toInt = 15
    · exact lv_tableIn (off := 655) (tgt := 688) hx hb dL_law_33 (by rw [c15]; decide) (by rw [c15]; decide) (by rw [c15]; rfl) (by decide) (lc_15 C hX hbl hL hi7 h hc hP hD hS hl go)
    by_cases c16 : v.toInt = 16
    · exact lv_tableIn (off := 688) (tgt := 721) hx hb dL_law_33 (by rw [c16]; decide) (by rw [c16]; decide) (by rw [c16]; rfl) (by decide) (lc_16 C hX hbl hL hi7 h hc hP hD hS hl go)
    by_cases c17 : v.toInt = 17
    · exact lv_tableIn (off := 721) (tgt := 754) hx hb dL_law_33 (by rw [c17]; decide) (by rw [c17]; decide) (by rw [c17]; rfl) (by decide) (lc_17 C hX hbl hL hi7 h hc hP hD hS hl go)
    by_cases c18 : v.toInt = 18
    · exact lv_tableIn (off := 764) (tgt := 797) hx hb dL_law_33 (by rw [c18]; decide) (by rw [c18]; decide) (by rw [c18]; rfl) (by decide) (lc_18 C hX hbl hL hi7 h hc hP hD hS hl go)
    by_cases c19 : v.toInt = 19
    · exact lv_tableIn (off := 817) (tgt := 850) hx hb dL_law_33 (by rw [c19]; decide) (by rw [c19]; decide) (by rw [c19]; rfl) (by decide) (lc_19 C hX hbl hL hi7 h hc hP hD hS hl go)
    by_cases c20 : v.toInt = 20
    · exact lv_tableIn (off := 850) (tgt := 883) hx hb dL_law_33 (by rw [c20]; decide) (by rw [c20]; decide) (by rw [c20]; rfl) (by decide) (lc_20 C hX hbl hL hi7 h hc hP hD hS hl go)
    by_cases c21 : v.toInt = 21
    · exact lv_tableIn (off := 893) (tgt := 926) hx hb dL_law_33 (by rw [c21]; decide) (by rw [c21]; decide) (by rw [c21]; rfl) (by decide) (lc_21 C hX hbl hL hi7 h hc hP hD hS hl go)
    by_cases c22 : v.toInt = 22
    · exact lv_tableIn (off := 927) (tgt := 960) hx hb dL_law_33 (by rw [c22]; decide) (by rw [c22]; decide) (by rw [c22]; rfl) (by decide) (lc_22 C hX hbl hL hi7 h hc hP hD hS hl go)
    by_cases c23 : v.toInt = 23
    · exact lv_tableIn (off := 960) (tgt := 993) hx hb dL_law_33 (by rw [c23]; decide) (by rw [c23]; decide) (by rw [c23]; rfl) (by decide) (lc_23 C hX hbl hL hi7 h hc hP hD hS hl go)
    by_cases c24 : v.toInt = 24
    · exact lv_tableIn (off := 1003) (tgt := 1036) hx hb dL_law_33 (by rw [c24]; decide) (by rw [c24]; decide) (by rw [c24]; rfl) (by decide) (lc_24 C hX hbl hL hi7 h hc hP hD hS hl go)
    by_cases c25 : v.toInt = 25
    · exact lv_tableIn (off := 1037) (tgt := 1070) hx hb dL_law_33 (by rw [c25]; decide) (by rw [c25]; decide) (by rw [c25]; rfl) (by decide) (lc_25 C hX hbl hL hi7 h hc hP hD hS hl go)
    by_cases c26 : v.toInt = 26
    · exact lv_tableIn (off := 1080) (tgt := 1113) hx hb dL_law_33 (by rw [c26]; decide) (by rw [c26]; decide) (by rw [c26]; rfl) (by decide) (lc_26 C hX hbl hL hi7 h hc hP hD hS hl go)
    by_cases c27 : v.toInt = 27
    · exact lv_tableIn (off := 1103) (tgt := 1136) hx hb dL_law_33 (by rw [c27]; decide) (by rw [c27]; decide) (by rw [c27]; rfl) (by decide) (lc_27 C hX hbl hL hi7 h hc hP hD hS hl go)
    by_cases c28 : v.toInt = 28
    · exact lv_tableIn (off := 1136) (tgt := 1169) hx hb dL_law_33 (by rw [c28]; decide) (by rw [c28]; decide) (by rw [c28]; rfl) (by decide) (lc_28 C hX hbl hL hi7 h hc hP hD hS hl go)
    by_cases c29 : v.toInt = 29
    · exact lv_tableIn (off := 1179) (tgt := 1212) hx hb dL_law_33 (by rw [c29]; decide) (by rw [c29]; decide) (by rw [c29]; rfl) (by decide) (lc_29 C hX hbl hL hi7 h hc hP hD hS hl go)
    by_cases c30 : v.toInt = 30
    · exact lv_tableIn (off := 1212) (tgt := 1245) hx hb dL_law_33 (by rw [c30]; decide) (by rw [c30]; decide) (by rw [c30]; rfl) (by decide) (lc_30 C hX hbl hL hi7 h hc hP hD hS hl go)
    by_cases c31 : v.toInt = 31
    · exact lv_tableIn (off := 1266) (tgt := 1299) hx hb dL_law_33 (by rw [c31]; decide) (by rw [c31]; decide) (by rw [c31]; rfl) (by decide) (lc_31 C hX hbl hL hi7 h hc hP hD hS hl go)
    by_cases c32 : v.toInt = 32
    · exact lv_tableIn (off := 1279) (tgt := 1312) hx hb dL_law_33 (by rw [c32]; decide) (by rw [c32]; decide) (by rw [c32]; rfl) (by decide) (lc_32 C hX hbl hL hi7 h hc hP hD hS hl go)
    by_cases c33 : v.toInt = 33
    · exact lv_tableIn (off := 1292) (tgt := 1325) hx hb dL_law_33 (by rw [c33]; decide) (by rw [c33]; decide) (by rw [c33]; rfl) (by decide) (lc_33 C hX hbl hL hi7 h hc hP hD hS hl go)
    by_cases c34 : v.toInt = 34
    · exact lv_tableIn (off := 1335) (tgt := 1368) hx hb dL_law_33 (by rw [c34]; decide) (by rw [c34]; decide) (by rw [c34]; rfl) (by decide) (lc_34 C hX hbl hL hi7 h hc hP hD hS hl go)
    by_cases c35 : v.toInt = 35
    · exact lv_tableIn (off := 1378) (tgt := 1411) hx hb dL_law_33 (by rw [c35]; decide) (by rw [c35]; decide) (by rw [c35]; rfl) (by decide) (lc_35 C hX hbl hL hi7 h hc hP hD hS hl go)
    by_cases c36 : v.toInt = 36
    · exact lv_tableIn (off := 1441) (tgt := 1474) hx hb dL_law_33 (by rw [c36]; decide) (by rw [c36]; decide) (by rw [c36]; rfl) (by decide) (lc_36 C hX hbl hL hi7 h hc hP hD hS hl go)
    by_cases c37 : v.toInt = 37
    · exact lv_tableIn (off := 1494) (tgt := 1527) hx hb dL_law_33 (by rw [c37]; decide) (by rw [c37]; decide) (by rw [c37]; rfl) (by decide) (lc_37 C hX hbl hL hi7 h hc hP hD hS hl go)
    exact lv_tableOut (tgt := 1560) hx hb dL_law_33 (by omega) (by decide) (go M R H locs h hP hD hS)
end LAW
