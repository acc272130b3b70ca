/-! L3: the first law comes onto the tape -/
theorem zlen_12 : zlen.getD 12 0 = 35 := by decide +kernel
theorem zbyt_12 : ∀ i, i < 35 → ((((((zbyt.getD 12 []).getD i 0) &&& (255 : Int32))).toUInt32 % 65536).toInt32) = nI (lawB i) := by decide +kernel
theorem isCh_12 : ∀ i, i < 35 → isCh (nI (lawB i)) = true := by decide +kernel
theorem slen_12 (M : Mem) : f_J0_length_8abf5 12 M = some 35 := by
  unfold f_J0_length_8abf5 b_J0_length_8abf5_0 f_J0_coder_7d493 b_J0_coder_7d493_0
  rw [if_neg (show ¬ (1 : Int32) = 0 by decide), bind_some_, zlen_12]
  decide
theorem schar_12 {i : Nat} (hi : i < 35) (M : Mem) : f_J0_charAt_5068e 12 (nI i) M = some (nI (lawB i)) := by
  unfold f_J0_charAt_5068e b_J0_charAt_5068e_0 f_J0_isLatin1_aae02 b_J0_isLatin1_aae02_0 f_J1_charAt_3b067 b_J1_charAt_3b067_0 f_J0_checkIndex_df160 b_J0_checkIndex_df160_0 f_J3_checkIndex_8e157 b_J3_checkIndex_8e157_0
  rw [if_neg (show ¬ (1 : Int32) = 0 by decide), if_pos (show (0 : Int32) = 0 from rfl), bind_some_, if_pos rfl, zlen_12, if_neg (nI_pos (by omega)), if_pos (nI_lt hi (by omega)), bind_some_, bind_some_, gd_t (inb_nI hi (by omega)), nI_clamp (by omega), zbyt_12 i hi, bind_some_, gd_t (isCh_12 i hi)]
def filF (F : Nat → Int32) (k : Nat) : Nat → Int32 := fun j => if j < k then F j else 0
theorem filF_0 (F : Nat → Int32) : (fun _ => 0) = filF F 0 := funext fun j => (if_neg (Nat.not_lt_zero j)).symm
theorem filF_s (F : Nat → Int32) (k : Nat) : upd (filF F k) k (F k) = filF F (k + 1) := by
  funext j
  unfold upd filF
  by_cases h : j = k
  · subst h
    rw [if_pos rfl, if_pos (Nat.lt_succ_self j)]
  · rw [if_neg h]
    by_cases h2 : j < k
    · rw [if_pos h2, if_pos (by omega)]
    · rw [if_neg h2, if_neg (by omega)]
section TPE
variable {p : Program} {l : Launch} {e : Env} {R : Room} {s : State} {m : MethodId} {args : Array Value} {below : List Frame} {meth : Method} {c : Code} {Q : State → Prop} {cc : ByteArray} {nL : Nat} {own : String} {D : va_G} {cy : Nat → ClassId} {zz : (Nat → Nat) × (Nat → Nat)} {A : Nat → Prop} {cells slots : Nat}
theorem cw_fill (C : CW p s m args meth c cc nL own D cy zz A) {q N k pc : Nat} {ls : Array Slot} {rest : List Value} {F : Nat → Int32} {T : va_W} {H : Heap} {locs : List Loc} (hP : va_P D vwCl ((q, .inl (cy 0, N, .inl (filF F k))) :: T) H) (hD : va_D A ((q, .inl (cy 0, N, .inl (filF F k))) :: T)) (hS : va_S A s.heap H locs) {i x : Int32} (hi : i = nI k) (hx : x = F k) (hk : k < N) (hN : N ≤ 10000) (hdg : decode cc pc = .ok (.iastore, 1))
    (kk : ∀ (H : Heap) (locs : List Loc), va_P D vwCl ((q, .inl (cy 0, N, .inl (filF F (k + 1)))) :: T) H → va_D A ((q, .inl (cy 0, N, .inl (filF F (k + 1)))) :: T) → va_S A s.heap H locs → W p l e R s m args below meth c H locs cells slots Q (F0 m (pc + 1) ls rest)) : W p l e R s m args below meth c H locs cells slots Q (F0 m pc ls (.int x :: .int i :: .ref q :: rest)) := by
  obtain ⟨hx0, hb, hml, hown, hts, hlk, hK, hN2, hA, hX⟩ := C
  subst hi
  subst hx
  have hcl : (nI k).toNatClampNeg = k := nI_clamp (by omega)
  refine va_iast hx0 hb hK hP hD hS 0 0 rfl rfl (fun z => ?_) hdg (fun H1 locs1 hP1 hD1 hS1 => ?_)
  · rcases z with z | z
    · exact nI_pos (by omega) z
    · rw [hcl] at z
      omega
  · rw [hcl, filF_s] at hP1 hD1
    exact kk H1 locs1 hP1 hD1 hS1
set_option maxHeartbeats 4000000 in
set_option maxRecDepth 100000 in
theorem x5_tape {RM : Room} (C : CW p s m args meth c cX5_init 4 RX5 D cy zz A) {h0 tp sk : Nat} {fs : List Value} (hfs : fs[5]? = some (.ref tp)) (hR : 4 ≤ RM.frames ∧ 85 ≤ RM.locals ∧ cells ≤ RM.cells ∧ slots ≤ RM.slots) {T : va_W}
    (kk : ∀ (H : Heap) (locs : List Loc) (ls : Array Slot), va_P D vwCl ((tp, .inl (cy 0, 160, .inl (filF (fun k => nI (lawB k)) 35))) :: (h0, .inr (5, fs)) :: T) H → va_D A ((tp, .inl (cy 0, 160, .inl (filF (fun k => nI (lawB k)) 35))) :: (h0, .inr (5, fs)) :: T) → va_S A s.heap H locs → lv_has ls 4 [(3, .int 35), (2, .int 35), (1, .ref sk), (0, .ref h0)] → W p l e RM s m args below meth c H locs cells slots Q (F0 m 171 ls [])) :
    ∀ (n i : Nat), i + n = 35 → ∀ (H : Heap) (locs : List Loc) (ls : Array Slot), va_P D vwCl ((tp, .inl (cy 0, 160, .inl (filF (fun k => nI (lawB k)) i))) :: (h0, .inr (5, fs)) :: T) H → va_D A ((tp, .inl (cy 0, 160, .inl (filF (fun k => nI (lawB k)) i))) :: (h0, .inr (5, fs)) :: T) → va_S A s.heap H locs → lv_has ls 4 [(3, .int (nI i)), (2, .int 35), (1, .ref sk), (0, .ref h0)] → W p l e RM s m args below meth c H locs cells slots Q (F0 m 148 ls []) := by
  obtain ⟨hx, hb, hml, hown, hts, hlk, hK, hN2, hA, hX⟩ := id C
  intro n
  induction n with
  | zero =>
    intro i hi H locs ls hP hD hS hl
    have e : i = 35 := hi
    subst e
    refine lv_iload_n hx hb dX5_init_148 rfl (lv_at hl 0 rfl) ?_
    refine lv_iload_n hx hb dX5_init_149 rfl (lv_at hl 1 rfl) ?_
    refine lv_icmp_ge (tgt := 171) hx hb dX5_init_150 (by decide) (fun _ => ?_) (fun z => absurd (show (35 : Int32) ≤ nI 35 by decide) z)
    exact kk H locs ls hP hD hS hl
  | succ n ih =>
    intro i hi H locs ls hP hD hS hl
    have hi35 : i < 35 := by omega
    refine lv_iload_n hx hb dX5_init_148 rfl (lv_at hl 0 rfl) ?_
    refine lv_iload_n hx hb dX5_init_149 rfl (lv_at hl 1 rfl) ?_
    refine lv_icmp_ge (tgt := 171) hx hb dX5_init_150 (by decide) (fun z => ?_) (fun _ => ?_)
    · have z' : nI 35 ≤ nI i := z
      rw [nI_leI (by omega) (by omega)] at z'
      omega
    · refine lv_aload_n hx hb dX5_init_153 rfl (lv_at hl 3 rfl) ?_
      refine va_get (D := D) (ci := 5) (v := .ref tp) (C := RX5) (T := TX5) (N := 11) hx hb hts inT5 hown hK hP 1 rfl rfl 5 (by decide) (hts _ wd_379) (fun _ h9 => h9) hfs dX5_init_154 ?_
      refine lv_iload_n hx hb dX5_init_157 rfl (lv_at hl 0 rfl) ?_
      refine va_ldcS hx hb hown hX.2.2.2.1 dX5_init_158 ?_
      refine lv_iload_n hx hb dX5_init_160 rfl (lv_at hl 0 rfl) ?_
      refine cw_pi (ad := fun _ => 0) (b := 0) (n := 0) (M := dumM 0) (M' := dumM 0) (ws := (tp, .inl (cy 0, 160, .inl (filF (fun k => nI (lawB k)) i))) :: (h0, .inr (5, fs)) :: T) (As := [.int (nI i)]) (rest := [.int (nI i), .ref tp]) C hP hD hS (cz_J0_charAt_5068e (by decide) (schar_12 hi35 (dumM 0))) (vk_recv hX.1 (by decide) hS) (gV wd_224 wd_225 wd_226 wd_69 wd_227) ev_J0_charAt_5068e ⟨rfl, rfl⟩ ⟨hR.1, hR.2.1⟩ hl.1 rfl (Nat.le_of_ble_eq_true rfl) dX5_init_161 ⟨hR.2.2.1, hR.2.2.2⟩ (fun H locs hP hD hS => ?_)
      refine cw_fill C hP hD hS rfl rfl (by omega) (by decide) dX5_init_164 (fun H locs hP hD hS => ?_)
      refine lv_iinc (v := nI (i + 1)) (lv' := [(3, .int (nI (i + 1))), (2, .int 35), (1, .ref sk), (0, .ref h0)]) hx hb dX5_init_165 hl (k := 0) rfl (nI_1 i) (by decide) rfl (fun ls hl => ?_)
      refine lv_goto (tgt := 148) hx hb dX5_init_168 (by decide) ?_
      exact ih (i + 1) (by omega) H locs ls hP hD hS hl
end TPE
