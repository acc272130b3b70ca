/-! L3: what holds at the law's entry -/
def tmS (i : Nat) : Term := if i < 12 then .string RX0 (113 + 2 * i) else .string RX5 49
def pxE : List Nat := [69, 78, 89, 101, 111, 123, 136, 153, 171, 187, 204, 223, 30]
def pxC : List Nat := [70, 79, 90, 102, 112, 124, 137, 154, 172, 188, 205, 224, 31]
def pxA : List Nat := [71, 80, 91, 103, 113, 125, 138, 155, 173, 189, 206, 225, 32]
def pxL : List Nat := [72, 81, 92, 104, 114, 126, 139, 156, 174, 190, 207, 226, 33]
def pxM : List (List Nat) := [[73, 74, 75, 76], [82, 83, 84, 85, 86], [93, 94, 95, 96, 97], [105, 106], [115, 116, 117], [127, 128, 129], [140, 141, 142, 143, 144, 145], [157, 158, 159, 160, 161, 162], [175, 176, 177], [191, 192, 193], [208, 209, 210, 211], [227, 228, 229, 230], [34, 35, 36, 37, 38, 39, 40, 41, 42, 43, 44, 45, 46, 47, 48, 49, 50, 51, 52, 53, 54, 55, 56, 57, 58, 59, 60, 61, 62, 63, 64, 65, 66, 67, 68]]
def pxN : List (List Nat) := [[0, 88, 99, 108, 119, 131, 147, 164, 179, 195, 213, 232, 77], [88, 0, 100, 109, 120, 132, 148, 165, 180, 196, 214, 233, 87], [99, 100, 0, 110, 121, 133, 149, 166, 181, 197, 215, 234, 98], [108, 109, 110, 0, 122, 134, 150, 167, 182, 198, 216, 235, 107], [119, 120, 121, 122, 0, 135, 151, 168, 183, 199, 217, 236, 118], [131, 132, 133, 134, 135, 0, 152, 169, 184, 200, 218, 237, 130], [147, 148, 149, 150, 151, 152, 0, 170, 185, 201, 219, 238, 146], [164, 165, 166, 167, 168, 169, 170, 0, 186, 202, 220, 239, 163], [179, 180, 181, 182, 183, 184, 185, 186, 0, 203, 221, 240, 178], [195, 196, 197, 198, 199, 200, 201, 202, 203, 0, 222, 241, 194], [213, 214, 215, 216, 217, 218, 219, 220, 221, 222, 0, 242, 212], [232, 233, 234, 235, 236, 237, 238, 239, 240, 241, 242, 0, 231], [77, 87, 98, 107, 118, 130, 146, 163, 178, 194, 212, 231, 0]]
def prL : List Cond := flatC (Jvm.Cond.and given_1 narrow_1)
set_option maxRecDepth 100000 in
theorem pr_ex : ∀ i, i < 13 → prL[pxE.getD i 0]? = some (Cond.exactly (tmS i) "java/lang/String") := by decide +kernel
set_option maxRecDepth 100000 in
theorem pr_co : ∀ i, i < 13 → prL[pxC.getD i 0]? = some (Cond.eq (.field (tmS i) "java/lang/String" "coder" "B") (.int 0)) := by decide +kernel
set_option maxRecDepth 100000 in
theorem pr_ar : ∀ i, i < 13 → prL[pxA.getD i 0]? = some (Cond.arrayOf (.field (tmS i) "java/lang/String" "value" "[B") .byte) := by decide +kernel
set_option maxRecDepth 100000 in
theorem pr_le : ∀ i, i < 13 → prL[pxL.getD i 0]? = some (Cond.eq (.length (.field (tmS i) "java/lang/String" "value" "[B")) (.int (Int32.ofNat (zlen.getD i 0)))) := by decide +kernel
set_option maxRecDepth 100000 in
theorem pr_el : ∀ i, i < 13 → ∀ j, j < zlen.getD i 0 → prL[(pxM.getD i []).getD j 0]? = some (Cond.eq (.elem (.field (tmS i) "java/lang/String" "value" "[B") (.int (Int32.ofNat j))) (.int ((zbyt.getD i []).getD j 0))) := by decide +kernel
set_option maxRecDepth 100000 in
theorem pr_ne : ∀ i, i < 13 → ∀ j, j < 13 → i ≠ j → prL[(pxN.getD i []).getD j 0]? = some (Cond.not (Cond.eq (tmS i) (tmS j))) ∨ prL[(pxN.getD i []).getD j 0]? = some (Cond.not (Cond.eq (tmS j) (tmS i))) := by decide +kernel
theorem pr_st : ∀ i, i < 12 → tables_1_2[11 + i]? = some (Cond.stringRef RX0 (113 + 2 * i) (ztx.getD i "")) := by decide +kernel
theorem zlen_lt : ∀ i, i < 13 → zlen.getD i 0 < 2 ^ 31 := by decide +kernel
theorem kc_prim {args : Array Value} {s : State} {ty : FieldType} (h : (Cond.arrayClass ty).before args s = true) : ∃ (cA : ClassId) (kA : Class) (comp : ClassId), s.vm.findClass ("[" ++ ty.toString) = some cA ∧ s.vm.classes[cA]? = some kA ∧ kA.kind = .array comp ty := by
  obtain ⟨c, k, comp, h1, h2, h3⟩ := Cond.arrayClass_spec h
  exact ⟨c, k, comp, h1, h2, h3⟩
theorem kc_obj {s : State} {C : String} (h : va_AO C s) : ∃ cA, ArrOfT s cA (.object C) ∧ va_RA s cA (.object C) := by
  obtain ⟨comp, c, k, h1, h2, h3, h4, h5⟩ := Cond.arrayOver_spec h
  exact ⟨c, fun n z => ⟨fun k h => (by cases h), k, h3, comp, h4⟩, k, comp, h3, h4, h1, h5⟩
theorem st_K {args : Array Value} {s : State} (hts : ∀ w ∈ tb, w.before args s = true) (a1 : va_AO RX1 s) (a2 : va_AO RX2 s) (a3 : va_AO RX3 s) : ∃ (D : va_G) (cy : Nat → ClassId), va_K D vwCl (tysC cy) s := by
  obtain ⟨c0, i0, g0⟩ := u_known (C := RX0) (T := TX0) (N := 7) (n := 7) hts inT0 (hts _ wd_263)
  obtain ⟨c1, i1, g1⟩ := u_known (C := RX1) (T := TX1) (N := 3) (n := 3) hts inT1 (hts _ wd_191)
  obtain ⟨c2, i2, g2⟩ := u_known (C := RX2) (T := TX2) (N := 10) (n := 10) hts inT2 (hts _ wd_95)
  obtain ⟨c3, i3, g3⟩ := u_known (C := RX3) (T := TX3) (N := 5) (n := 5) hts inT3 (hts _ wd_168)
  obtain ⟨c4, i4, g4⟩ := u_known (C := RX4) (T := TX4) (N := 5) (n := 5) hts inT4 (hts _ wd_88)
  obtain ⟨c5, i5, g5⟩ := u_known (C := RX5) (T := TX5) (N := 11) (n := 11) hts inT5 (hts _ wd_80)
  obtain ⟨c6, i6, g6⟩ := u_known (C := RX6) (T := TX6) (N := 37) (n := 37) hts inT6 (hts _ wd_830)
  obtain ⟨y0, k0, p0, e0, e1, e2⟩ := kc_prim (hts (.arrayClass .int) wd_141)
  obtain ⟨y1, k1, p1, f0, f1, f2⟩ := kc_prim (hts (.arrayClass .long) wd_994)
  obtain ⟨y2, b0, b1⟩ := kc_obj a1
  obtain ⟨y3, b2, b3⟩ := kc_obj a2
  obtain ⟨y4, b4, b5⟩ := kc_obj a3
  refine ⟨(fun k => match k with | 0 => c0 | 1 => c1 | 2 => c2 | 3 => c3 | 4 => c4 | 5 => c5 | _ => c6, fun k => match k with | 0 => i0 | 1 => i1 | 2 => i2 | 3 => i3 | 4 => i4 | 5 => i5 | _ => i6), (fun k => match k with | 0 => y0 | 1 => y1 | 2 => y2 | 3 => y3 | _ => y4), fun k q hq => ?_, fun k q hq => ?_⟩
  · match k, hq with
    | 0, hq => cases hq; exact g0
    | 1, hq => cases hq; exact g1
    | 2, hq => cases hq; exact g2
    | 3, hq => cases hq; exact g3
    | 4, hq => cases hq; exact g4
    | 5, hq => cases hq; exact g5
    | 6, hq => cases hq; exact g6
    | k + 7, hq => exact absurd hq (by rw [List.getElem?_eq_none (by show 7 ≤ k + 7; omega)]; exact fun z => by cases z)
  · match k, hq with
    | 0, hq => cases hq; exact ⟨fun n z => ⟨fun k h => (by cases h), k0, e1, p0, e2⟩, e0⟩
    | 1, hq => cases hq; exact ⟨fun n z => ⟨fun k h => (by cases h), k1, f1, p1, f2⟩, f0⟩
    | 2, hq => cases hq; exact ⟨b0, b1⟩
    | 3, hq => cases hq; exact ⟨b2, b3⟩
    | 4, hq => cases hq; exact ⟨b4, b5⟩
    | k + 5, hq => exact absurd hq (by rw [List.getElem?_eq_none (by show 5 ≤ k + 5; omega)]; exact fun z => by cases z)
theorem st_NX {args : Array Value} {s : State} (hts : ∀ w ∈ lw_tbl, w.before args s = true) : NX s :=
  ⟨va_Nw.of rfl (hts nestW (in_3 _ (List.mem_of_getElem? (i := 65) rfl))), va_Nw.of rfl (hts (.methodLinkNest RX4 17 yX2_init RX5) (in_1 _ (List.mem_of_getElem? (i := 33) rfl))), va_Nw.of rfl (hts (.methodLinkNest RX5 24 yX2_init RX5) (in_1 _ (List.mem_of_getElem? (i := 100) rfl))), va_Nw.of rfl (hts (.methodLinkNest RX5 48 yX1_init RX5) (in_1 _ (List.mem_of_getElem? (i := 129) rfl))),
    va_AO.of (hts (.arrayOver (.object RX1)) (in_1 _ (List.mem_of_getElem? (i := 104) rfl))), va_AO.of (hts (.arrayOver (.object RX2)) (in_1 _ (List.mem_of_getElem? (i := 31) rfl))), va_AO.of (hts (.arrayOver (.object RX3)) (in_1 _ (List.mem_of_getElem? (i := 102) rfl)))⟩
theorem st_XP {args : Array Value} {s : State} {A : Nat → Prop} (hts : ∀ w ∈ lw_tbl, w.before args s = true) (hg : (Jvm.Cond.and given_1 narrow_1).before args s = true) (hA : ∀ a : Nat, a < s.heap.size → ¬ A a) : ∃ zz : (Nat → Nat) × (Nat → Nat), XP zz A s s.heap := by
  have hs : ∀ w, (∃ k : Nat, prL[k]? = some w) → w.before args s = true := fun w hw => by
    obtain ⟨k, hk⟩ := hw
    exact flat_of_before _ hg w (List.mem_of_getElem? (i := k) hk)
  obtain ⟨aK, aV, h1, h2⟩ := vk_Sof (args := args) (s := s) (N := 13) (tm := tmS) (len := zlen) (byt := zbyt) (A := A) zlen_lt (fun i hi => hs _ ⟨_, pr_ex i hi⟩) (fun i hi => hs _ ⟨_, pr_co i hi⟩) (fun i hi => hs _ ⟨_, pr_ar i hi⟩) (fun i hi => hs _ ⟨_, pr_le i hi⟩) (fun i hi j hj => hs _ ⟨_, pr_el i hi j hj⟩) (fun i j hi hj hij => (pr_ne i hi j hj hij).imp (fun h => hs _ ⟨_, h⟩) (fun h => hs _ ⟨_, h⟩)) hA
  refine ⟨(aK, aV), h1, ?_, ?_, ?_, fun i hi => ?_⟩
  · exact va_Zof (hts _ (in_1 _ (List.mem_of_getElem? (i := 157) rfl))) (hts _ (in_1 _ (List.mem_of_getElem? (i := 6) rfl))) (va_eqi (hs _ ⟨4, rfl⟩)) hA
  · exact va_Zqof (hts _ (in_1 _ (List.mem_of_getElem? (i := 176) rfl))) (hts _ (in_1 _ (List.mem_of_getElem? (i := 9) rfl))) (hs _ ⟨5, rfl⟩) hA
  · exact vk_R.of (hts _ (in_1 _ (List.mem_of_getElem? (i := 147) rfl))) (h2 12 (by decide))
  · have e := h2 i (by omega)
    unfold tmS at e
    rw [if_pos hi] at e
    exact vk_R.of (hts _ (in_2 _ (List.mem_of_getElem? (i := 11 + i) (pr_st i hi)))) e
theorem law_CW {p : Program} {s : State} {m : MethodId} {meth : Method} {c : Code} {b L : Nat} {xs : Nat → Int32} (C0 : lw_At p s m meth c b L xs) : ∃ (D : va_G) (cy : Nat → ClassId) (zz : (Nat → Nat) × (Nat → Nat)), CW p s m #[Value.ref b] meth c cL_law 4 RL D cy zz (fun q => s.heap.size ≤ q) := by
  obtain ⟨hx, hb, hr, hml, hown, hts, hX, hbl, hlocks, hgv⟩ := C0
  have htb : ∀ w ∈ tb, w.before #[Value.ref b] s = true := fun w hw => hts w (List.mem_filter.mp hw).1
  have hN := st_NX hts
  obtain ⟨D, cy, hK⟩ := st_K htb hN.2.2.2.2.1 hN.2.2.2.2.2.1 hN.2.2.2.2.2.2
  obtain ⟨zz, hZ⟩ := st_XP (A := fun q => s.heap.size ≤ q) hts hgv (fun a h => Nat.not_le.mpr h)
  exact ⟨D, cy, zz, hx, hb, hml, hown, htb, hlocks, hK, hN, fun _ h => h, hZ⟩