/-! L3: walks over any list of cells: what constructors need -/
def NX (U : State) : Prop := va_Nw nestW U ∧ va_Nw (.methodLinkNest RX4 17 yX2_init RX5) U ∧ va_Nw (.methodLinkNest RX5 24 yX2_init RX5) U ∧ va_Nw (.methodLinkNest RX5 48 yX1_init RX5) U ∧ va_AO RX1 U ∧ va_AO RX2 U ∧ va_AO RX3 U
theorem NX.blind {U : State} (h : NX U) (g : JFrame) (mk : MethodId) (a : Array Value) : NX (U.calling g mk a) := ⟨va_Nw.same rfl (u := U) rfl h.1, va_Nw.same rfl (u := U) rfl h.2.1, va_Nw.same rfl (u := U) rfl h.2.2.1, va_Nw.same rfl (u := U) rfl h.2.2.2.1, va_AO.moved (u := U) (U := U.calling g mk a) (Vm.Alike.refl U.vm) h.2.2.2.2.1, va_AO.moved (u := U) (U := U.calling g mk a) (Vm.Alike.refl U.vm) h.2.2.2.2.2.1, va_AO.moved (u := U) (U := U.calling g mk a) (Vm.Alike.refl U.vm) h.2.2.2.2.2.2⟩
theorem NX.warm {s U : State} (hW : s.WarmedH U.vm) (h : NX s) : NX U := ⟨va_Nw.warmM hW h.1, va_Nw.warmM hW h.2.1, va_Nw.warmM hW h.2.2.1, va_Nw.warmM hW h.2.2.2.1, va_AO.moved hW.alike h.2.2.2.2.1, va_AO.moved hW.alike h.2.2.2.2.2.1, va_AO.moved hW.alike h.2.2.2.2.2.2⟩
theorem XP.nar {zz : (Nat → Nat) × (Nat → Nat)} {A B : Nat → Prop} {s U : State} {H : Heap} {locs : List Loc} (h : XP zz A s s.heap) (hS : va_S A s.heap H locs) (hs : ∀ q, B q → A q) (hU : U.heap = H) (hW : s.WarmedH U.vm) : XP zz B U U.heap := by
  rw [hU]
  exact ⟨((vk_S.moved hW.alike h.1).kept hS.2.1).narrow hs, ((va_Z.moved hW.alike h.2.1).kept hS.2.1).narrow hs, ((va_Zq.moved hW.alike h.2.2.1).kept hS.2.1).narrow hs, vk_R.warm hW h.2.2.2.1, fun i hi => vk_R.warm hW (h.2.2.2.2 i hi)⟩
def CW (p : Program) (s : State) (m : MethodId) (args : Array Value) (meth : Method) (c : Code) (cc : ByteArray) (nL : Nat) (own : String) (D : va_G) (cy : Nat → ClassId) (zz : (Nat → Nat) × (Nat → Nat)) (A : Nat → Prop) : Prop :=
  p.tables.exec = Jvm.exec ∧ c.code = cc ∧ c.maxLocals = nL ∧ s.vm.findClass own = some m.cls ∧ (∀ w ∈ tb, w.before args s = true) ∧ meth.locks = false ∧ va_K D vwCl (tysC cy) s ∧ NX s ∧ (∀ q, s.heap.size ≤ q → A q) ∧ XP zz A s s.heap
def CTn {S : Type} (l : Launch) (D : va_G) (cy : Nat → ClassId) (zz : (Nat → Nat) × (Nat → Nat)) (y : MethodName) (wsC : List Cond) (rm : Room) (As : List Value) (h0 : Nat) (e0 : va_E) (k n : Nat) (G : S → Prop) (post : S → va_W) : Prop :=
  ∀ sz, Met l y wsC rm (va_Pc (.ref h0 :: As) (fun U => U.heap.size = sz ∧ va_P D vwCl [(h0, e0)] U.heap ∧ va_K D vwCl (tysC cy) U ∧ va_D (fun _ => True) [(h0, e0)] ∧ NX U ∧ XP zz (va_A [(h0, e0)] U.heap.size) U U.heap)) (va_Qv G (fun u t => va_P D vwCl (post u) t.heap ∧ va_K D vwCl (tysC cy) t ∧ va_D (va_A [(h0, e0)] sz) (post u)) (va_A [(h0, e0)] sz)) k n (va_A [(h0, e0)] sz)
theorem ctn_blind {D : va_G} {cy : Nat → ClassId} {zz : (Nat → Nat) × (Nat → Nat)} {w : va_W} {As : List Value} {sz : Nat} {B : Nat → Nat → Prop} : FrameBlind (va_Pc As (fun U => U.heap.size = sz ∧ va_P D vwCl w U.heap ∧ va_K D vwCl (tysC cy) U ∧ va_D (fun _ => True) w ∧ NX U ∧ XP zz (B U.heap.size) U U.heap)) := fun a U g mk q => by
  obtain ⟨q0, q1, qP, qK, qD, qN, qX⟩ := q
  exact ⟨q0, q1, qP, va_K.moved (u := U) (U := U.calling g mk a) (Vm.Alike.refl U.vm) qK, qD, qN.blind g mk a, XP.same (U := U.calling g mk a) rfl qX⟩
theorem rotP {D : va_G} {cl : List vw_C} {ws : va_W} {x : Nat × va_E} {H : Heap} (h : va_P D cl (ws ++ [x]) H) : va_P D cl (x :: ws) H := by
  intro k q hk
  cases k with
  | zero =>
    cases hk
    exact h ws.length x (by rw [List.getElem?_append_right (Nat.le_refl _), Nat.sub_self]; rfl)
  | succ k =>
    have hk' : ws[k]? = some q := hk
    have hl : k < ws.length := (List.getElem?_eq_some_iff.mp hk').1
    exact h k q (by rw [List.getElem?_append_left hl]; exact hk')
/-- addresses apart, said otherwise -/
theorem va_D.iff {A : Nat → Prop} {ws : va_W} : va_D A ws ↔ (ws.map Prod.fst).Nodup ∧ ∀ q ∈ ws, A q.1 := by
  constructor
  · intro h
    refine ⟨?_, fun q hq => ?_⟩
    · refine List.pairwise_iff_getElem.mpr (fun i j hi hj hij hx => ?_)
      rw [List.getElem_map, List.getElem_map] at hx
      rw [List.length_map] at hi hj
      have := h.1 i j ws[i] ws[j] (List.getElem?_eq_getElem hi) (List.getElem?_eq_getElem hj) hx
      omega
    · obtain ⟨i, hi, rfl⟩ := List.getElem_of_mem hq
      exact h.2 i _ (List.getElem?_eq_getElem hi)
  · intro ⟨h1, h2⟩
    refine ⟨fun i j p q hp hq hx => ?_, fun k q hk => h2 q (List.mem_of_getElem? hk)⟩
    obtain ⟨hi, ei⟩ := List.getElem?_eq_some_iff.mp hp
    obtain ⟨hj, ej⟩ := List.getElem?_eq_some_iff.mp hq
    have hn := List.pairwise_iff_getElem.mp h1
    rcases Nat.lt_trichotomy i j with hlt | he | hlt
    · refine absurd ?_ (hn i j (by rw [List.length_map]; exact hi) (by rw [List.length_map]; exact hj) hlt)
      rw [List.getElem_map, List.getElem_map, ei, ej]
      exact hx
    · exact he
    · refine absurd ?_ (hn j i (by rw [List.length_map]; exact hj) (by rw [List.length_map]; exact hi) hlt)
      rw [List.getElem_map, List.getElem_map, ei, ej]
      exact hx.symm
theorem va_D.pm {A : Nat → Prop} {ws ws' : va_W} (h : va_D A ws) (hp : ws'.Perm ws) : va_D A ws' := by
  rw [va_D.iff] at h ⊢
  exact ⟨(hp.map Prod.fst).nodup_iff.mpr h.1, fun q hq => h.2 q (hp.mem_iff.mp hq)⟩
theorem va_P.pm {D : va_G} {cl : List vw_C} {ws ws' : va_W} {H : Heap} (h : va_P D cl ws H) (hp : ws'.Perm ws) : va_P D cl ws' H := by
  intro k q hk
  have hm : q ∈ ws := hp.mem_iff.mp (List.mem_of_getElem? hk)
  obtain ⟨i, hi, rfl⟩ := List.getElem_of_mem hm
  exact h i _ (List.getElem?_eq_getElem hi)
theorem rotD {A : Nat → Prop} {ws : va_W} {x : Nat × va_E} (h : va_D A (ws ++ [x])) : va_D A (x :: ws) := h.pm (List.perm_append_singleton x ws).symm
theorem cy_0 {D : va_G} {cy : Nat → ClassId} {s : State} {j : Nat} {cA : ClassId} {ty : FieldType} (hK : va_K D vwCl (tysC cy) s) (hj : (tysC cy)[j]? = some (cy j, ty)) (hK2 : va_K D vwCl (tysC cy ++ [(cA, ty)]) s) : cA = cy j := by
  have h1 := (hK.2 j _ hj).2
  have h2 := (hK2.2 5 (cA, ty) rfl).2
  cases ty with
  | object C =>
    obtain ⟨_, _, _, _, _, g1⟩ := h1
    obtain ⟨_, _, _, _, _, g2⟩ := h2
    exact Option.some.inj (g2.symm.trans g1)
  | _ => exact Option.some.inj (Eq.trans (Eq.symm h2) h1)
section CWS
variable {p : Program} {l : Launch} {e : Env} {R : Room} {s : State} {m : MethodId} {args : Array Value} {below : List Frame} {meth : Method} {c : Code} {H : Heap} {locs : List Loc} {Q : State → Prop} {cc : ByteArray} {nL : Nat} {own : String} {D : va_G} {cy : Nat → ClassId} {zz : (Nat → Nat) × (Nat → Nat)} {A : Nat → Prop} {pc : Nat} {ls : Array Slot} {rest : List Value} {ws : va_W} {cells slots : Nat}
theorem cw_ni (C : CW p s m args meth c cc nL own D cy zz A) (hP : va_P D vwCl ws H) (hD : va_D A ws) (hS : va_S A s.heap H locs) {n : Int32} {N : Nat} (hn : n = nI N) (hN : N ≤ 10000) (hcells : cells + 1 ≤ R.cells) (hslots : slots + N ≤ R.slots) (hdg : decode cc pc = .ok (.newarray .int, 2))
    (kk : ∀ (q : Nat) (H : Heap), va_P D vwCl ((q, .inl (cy 0, N, .inl (fun _ => 0))) :: ws) H → va_D A ((q, .inl (cy 0, N, .inl (fun _ => 0))) :: ws) → va_S A s.heap H locs → W p l e R s m args below meth c H locs (cells + 1) (slots + N) Q (F0 m (pc + 2) ls (.ref q :: rest))) : W p l e R s m args below meth c H locs cells slots Q (F0 m pc ls (.int n :: rest)) := by
  obtain ⟨hx, hb, hml, hown, hts, hlk, hK, hN2, hA, hX⟩ := C
  subst hn
  refine va_newa hx hb (hts (.arrayClass (newarray.typeOf .int)) wd_141) (ty := .int) rfl hK hP hD hS hA (a0 := (N, .inl (fun _ => 0))) (N' := N) (fun cA => by rw [vp_cell_i]; rfl) (nI_pos (by omega)) (nI_clamp (by omega)) (by show N * 4 ≤ _; omega) hcells hslots hdg (fun q cA H1 hK1 hP1 hD1 hS1 => ?_)
  have e := cy_0 (j := 0) hK rfl hK1
  subst e
  exact kk q H1 (rotP hP1) (rotD hD1) hS1
theorem cw_nl (C : CW p s m args meth c cc nL own D cy zz A) (hP : va_P D vwCl ws H) (hD : va_D A ws) (hS : va_S A s.heap H locs) {n : Int32} {N : Nat} (hn : n = nI N) (hN : N ≤ 10000) (hcells : cells + 1 ≤ R.cells) (hslots : slots + N ≤ R.slots) (hdg : decode cc pc = .ok (.newarray .long, 2))
    (kk : ∀ (q : Nat) (H : Heap), va_P D vwCl ((q, .inl (cy 1, N, .inr (.inl (fun _ => 0)))) :: ws) H → va_D A ((q, .inl (cy 1, N, .inr (.inl (fun _ => 0)))) :: ws) → va_S A s.heap H locs → W p l e R s m args below meth c H locs (cells + 1) (slots + N) Q (F0 m (pc + 2) ls (.ref q :: rest))) : W p l e R s m args below meth c H locs cells slots Q (F0 m pc ls (.int n :: rest)) := by
  obtain ⟨hx, hb, hml, hown, hts, hlk, hK, hN2, hA, hX⟩ := C
  subst hn
  refine va_newa hx hb (hts (.arrayClass (newarray.typeOf .long)) wd_994) (ty := .long) rfl hK hP hD hS hA (a0 := (N, .inr (.inl (fun _ => 0)))) (N' := N) (fun cA => by rw [vp_cell_l]; rfl) (nI_pos (by omega)) (nI_clamp (by omega)) (by show N * 8 ≤ _; omega) hcells hslots hdg (fun q cA H1 hK1 hP1 hD1 hS1 => ?_)
  have e := cy_0 (j := 1) hK rfl hK1
  subst e
  exact kk q H1 (rotP hP1) (rotD hD1) hS1
theorem cw_na (C : CW p s m args meth c cc nL own D cy zz A) (hP : va_P D vwCl ws H) (hD : va_D A ws) (hS : va_S A s.heap H locs) {n : Int32} {N index j : Nat} {C0 : String} (hj : (tysC cy)[j]? = some (cy j, .object C0)) (hcl : Cond.classLink own index C0 ∈ tb) (hao : va_AO C0 s) (hn : n = nI N) (hN : N ≤ 10000) (hcells : cells + 1 ≤ R.cells) (hslots : slots + N ≤ R.slots) (hdg : decode cc pc = .ok (.anewarray index, 3))
    (kk : ∀ (q : Nat) (H : Heap), va_P D vwCl ((q, .inl (cy j, N, .inr (.inr (.inr (.inr (fun _ => none)))))) :: ws) H → va_D A ((q, .inl (cy j, N, .inr (.inr (.inr (.inr (fun _ => none)))))) :: ws) → va_S A s.heap H locs → W p l e R s m args below meth c H locs (cells + 1) (slots + N) Q (F0 m (pc + 3) ls (.ref q :: rest))) : W p l e R s m args below meth c H locs cells slots Q (F0 m pc ls (.int n :: rest)) := by
  obtain ⟨hx, hb, hml, hown, hts, hlk, hK, hN2, hA, hX⟩ := C
  subst hn
  refine va_newq hx hb hown (hts _ hcl) hao hK hP hD hS hA (N' := N) (nI_pos (by omega)) (nI_clamp (by omega)) (by omega) hcells hslots hdg (fun q cA H1 hK1 hP1 hD1 hS1 => ?_)
  have e := cy_0 (j := j) hK hj hK1
  subst e
  exact kk q H1 (rotP hP1) (rotD hD1) hS1
/-- a constructor's call: the new cell first in the list -/
theorem ci_fin {S : Type} {G : S → Prop} {post : S → va_W} {h0 : Nat} {e0 : va_E} {k n : Nat} {st0 : List Value} (hS : va_S A s.heap H locs) (hP : va_P D vwCl ((h0, e0) :: ws) H) (hD : va_D A ((h0, e0) :: ws)) (hA : ∀ q, s.heap.size ≤ q → A q) {a : Array Value}
    (hr : va_Run p l e R s m args below meth c H locs cells slots k n (F0 m pc ls st0) rest (va_Qv G (fun u t => va_P D vwCl (post u) t.heap ∧ va_K D vwCl (tysC cy) t ∧ va_D (va_A [(h0, e0)] H.size) (post u)) (va_A [(h0, e0)] H.size) a) (va_A [(h0, e0)] H.size))
    (kk : ∀ (u : S) (H : Heap) (locs : List Loc), G u → va_P D vwCl (post u ++ ws) H → va_D A (post u ++ ws) → va_S A s.heap H locs → W p l e R s m args below meth c H locs (cells + k) (slots + n) Q (F0 m (pc + 3) ls rest)) : W p l e R s m args below meth c H locs cells slots Q (F0 m pc ls st0) := by
  have hF : ∀ q, va_A [(h0, e0)] H.size q → A q := va_free (ws := (h0, e0) :: ws) hD hS hA [0] rfl
  refine va_callv hr hS (fun q _ h => hF q h) hF (fun u t H1 locs1 ht hvm hw hB hz1 hk1 hS1 => ?_)
  obtain ⟨hP1, hK1, hD1⟩ := hB
  rw [ht] at hP1
  have apart : ∀ (j : Nat) (q : Nat × va_E), ws[j]? = some q → q.1 < H.size ∧ ¬ va_A [(h0, e0)] H.size q.1 := by
    intro j q hq
    have hl := (hP (j + 1) q hq).lt
    refine ⟨hl, fun z => ?_⟩
    rcases z with ⟨i, e', hi⟩ | z
    · cases i with
      | zero =>
        cases hi
        have := hD.1 (j + 1) 0 q (q.1, e0) hq rfl rfl
        omega
      | succ i => cases hi
    · omega
  refine kk u H1 locs1 hw (hP1.app (fun j q hq => (hP (j + 1) q hq).kept (hk1 q.1 (apart j q hq).1 (apart j q hq).2))) ((hD1.weaken (fun _ q _ h => hF q.1 h)).app ⟨fun i j p q h1 h2 h3 => by
    have := hD.1 (i + 1) (j + 1) p q h1 h2 h3
    omega, fun j q hq => hD.2 (j + 1) q hq⟩ (fun i j x y hx hy hxy => (apart j y hy).2 (by rw [← hxy]; exact hD1.2 i x hx))) hS1
theorem cw_ci (C : CW p s m args meth c cc nL own D cy zz A) {S : Type} {y : MethodName} {bytes : ByteArray} {maxL : Nat} {rm : Room} {As : List Value} {h0 : Nat} {e0 : va_E} {k n index : Nat} {G : S → Prop} {post : S → va_W} {st0 : List Value} (hP : va_P D vwCl ((h0, e0) :: ws) H) (hD : va_D A ((h0, e0) :: ws)) (hS : va_S A s.heap H locs)
    (hM : CTn l D cy zz y (.code y bytes maxL none :: tb) rm As h0 e0 k n G post) (hcd : (Cond.code y bytes maxL none) ∈ tb) (hini : (Cond.initialized y.cls) ∈ tb) (hlink : (Cond.methodLink own index y) ∈ tb) (hin : (Cond.instanceMethod y) ∈ tb) (hy : y.name = "<init>")
    (hd : y.cls ≠ "java/lang/invoke/MethodHandle" ∧ y.cls ≠ "java/lang/invoke/VarHandle" ∧ (parseMethodDescriptor y.desc).map (fun d => d.parameters.length) = some As.length) (hrm : rm.cells = k ∧ rm.slots = n) (hR : rm.frames + 1 ≤ R.frames ∧ 8 + (maxL + 11) + rm.locals ≤ R.locals) (hls : ls.size = nL) (hst : st0 = As.reverse ++ .ref h0 :: rest) (hw : (rest.map fun v => v.category).sum ≤ 8) (hdg : decode cc pc = .ok (.invokespecial index, 3)) (hf : cells + k ≤ R.cells ∧ slots + n ≤ R.slots)
    (kk : ∀ (u : S) (H : Heap) (locs : List Loc), G u → va_P D vwCl (post u ++ ws) H → va_D A (post u ++ ws) → va_S A s.heap H locs → W p l e R s m args below meth c H locs (cells + k) (slots + n) Q (F0 m (pc + 3) ls rest)) : W p l e R s m args below meth c H locs cells slots Q (F0 m pc ls st0) := by
  obtain ⟨hx, hb, hml, hown, hts, hlk, hK, hN2, hA, hX⟩ := C
  have hPc : va_P D vwCl [(h0, e0)] H := hP.sub (ws' := [(h0, e0)]) [0] rfl
  have hDc : va_D A [(h0, e0)] := hD.sub (ws' := [(h0, e0)]) [0] (by decide) rfl
  have hF : ∀ q, va_A [(h0, e0)] H.size q → A q := va_free (ws := (h0, e0) :: ws) hD hS hA [0] rfl
  exact ci_fin hS hP hD hA (va_runI (As := As) (rest := rest) ⟨hx, hb, hml, hown, hts⟩ (hM H.size) (cwI As.length hts (tb_in (x := .code y bytes maxL none) (tb_cons hcd)) rfl hrm.1 hrm.2 (hts _ hini) (hts _ hlink) (hts _ hin) hy hd hR) ⟨ctn_blind (B := fun z => va_A [(h0, e0)] z), fun U hU hW => ⟨rfl, by rw [hU], by rw [hU]; exact hPc, va_K.moved hW.alike hK, hDc.weaken (fun _ _ _ _ => trivial), hN2.warm hW, XP.nar hX hS (by rw [hU]; exact hF) hU hW⟩⟩ rfl rfl hls hst (lv_room hw) hdg hf) kk
theorem cw_cN (C : CW p s m args meth c cc nL own D cy zz A) {S : Type} {y : MethodName} {host : String} {bytes : ByteArray} {maxL : Nat} {rm : Room} {As : List Value} {h0 : Nat} {e0 : va_E} {k n index : Nat} {G : S → Prop} {post : S → va_W} {st0 : List Value} (hP : va_P D vwCl ((h0, e0) :: ws) H) (hD : va_D A ((h0, e0) :: ws)) (hS : va_S A s.heap H locs)
    (hM : CTn l D cy zz y (.code y bytes maxL none :: tb) rm As h0 e0 k n G post) (hcd : (Cond.code y bytes maxL none) ∈ tb) (hini : (Cond.initialized y.cls) ∈ tb) (hNw : va_Nw (.methodLinkNest own index y host) s) (hin : (Cond.instanceMethod y) ∈ tb) (hy : y.name = "<init>")
    (hd : y.cls ≠ "java/lang/invoke/MethodHandle" ∧ y.cls ≠ "java/lang/invoke/VarHandle" ∧ (parseMethodDescriptor y.desc).map (fun d => d.parameters.length) = some As.length) (hrm : rm.cells = k ∧ rm.slots = n) (hR : rm.frames + 1 ≤ R.frames ∧ 8 + (maxL + 11) + rm.locals ≤ R.locals) (hls : ls.size = nL) (hst : st0 = As.reverse ++ .ref h0 :: rest) (hw : (rest.map fun v => v.category).sum ≤ 8) (hdg : decode cc pc = .ok (.invokespecial index, 3)) (hf : cells + k ≤ R.cells ∧ slots + n ≤ R.slots)
    (kk : ∀ (u : S) (H : Heap) (locs : List Loc), G u → va_P D vwCl (post u ++ ws) H → va_D A (post u ++ ws) → va_S A s.heap H locs → W p l e R s m args below meth c H locs (cells + k) (slots + n) Q (F0 m (pc + 3) ls rest)) : W p l e R s m args below meth c H locs cells slots Q (F0 m pc ls st0) := by
  obtain ⟨hx, hb, hml, hown, hts, hlk, hK, hN2, hA, hX⟩ := C
  have hPc : va_P D vwCl [(h0, e0)] H := hP.sub (ws' := [(h0, e0)]) [0] rfl
  have hDc : va_D A [(h0, e0)] := hD.sub (ws' := [(h0, e0)]) [0] (by decide) rfl
  have hF : ∀ q, va_A [(h0, e0)] H.size q → A q := va_free (ws := (h0, e0) :: ws) hD hS hA [0] rfl
  exact ci_fin hS hP hD hA (va_runIN (As := As) (rest := rest) ⟨hx, hb, hml, hown, hts⟩ (hM H.size) ⟨va_cnB As.length hts (tb_in (x := .code y bytes maxL none) (tb_cons hcd)) rfl hrm.1 hrm.2 hNw (hts _ hini) hd hR, hy, hts _ hin⟩ ⟨ctn_blind (B := fun z => va_A [(h0, e0)] z), fun U hU hW => ⟨rfl, by rw [hU], by rw [hU]; exact hPc, va_K.moved hW.alike hK, hDc.weaken (fun _ _ _ _ => trivial), hN2.warm hW, XP.nar hX hS (by rw [hU]; exact hF) hU hW⟩⟩ rfl rfl hls hst (lv_room hw) hdg hf) kk
theorem cw_obj (C : CW p s m args meth c cc nL own D cy zz A) {index a : Nat} (hlink : Cond.methodLink own index objectInit ∈ tb) (hls : ls.size = nL) (hfr : 1 ≤ R.frames) (hlo : (rest.map fun v => v.category).sum + 12 ≤ R.locals) (hdg : decode cc pc = .ok (.invokespecial index, 3)) (kk : W p l e R s m args below meth c H locs cells slots Q (F0 m (pc + 3) ls rest)) : W p l e R s m args below meth c H locs cells slots Q (F0 m pc ls (.ref a :: rest)) := by
  obtain ⟨hx, hb, hml, hown, hts, hlk, hK, hN2, hA, hX⟩ := C
  refine W.objInit hx hb hown (hts _ hlink) (hts _ wd_85) (hts _ wd_86) rfl (by rw [hml]; exact hls) rfl hdg hfr (by show 2 * (F0 m pc ls (.ref a :: rest)).monitorRoom + _ + 12 ≤ _; show 2 * 0 + _ + 12 ≤ _; omega) ?_
  exact W.eq (g2 := F0 m (pc + 3) ls rest) rfl kk
theorem cw_ret {S : Type} {G : S → Prop} {post : S → va_W} {h0 : Nat} {e0 : va_E} {sz : Nat} (C : CW p s m args meth c cc nL own D cy zz (va_A [(h0, e0)] sz)) (hr : meth.sig.returnType = none) (u : S) (hG : G u) (hP : va_P D vwCl (post u) H) (hD : va_D (va_A [(h0, e0)] sz) (post u)) (hS : va_S (va_A [(h0, e0)] sz) s.heap H locs) (hdg : decode cc pc = .ok (.return_, 1)) : W p l e R s m args below meth c H locs cells slots (MQ below (va_Qv G (fun u t => va_P D vwCl (post u) t.heap ∧ va_K D vwCl (tysC cy) t ∧ va_D (va_A [(h0, e0)] sz) (post u)) (va_A [(h0, e0)] sz)) args s cells slots (va_A [(h0, e0)] sz)) (F0 m pc ls []) := by
  obtain ⟨hx, hb, hml, hown, hts, hlk, hK, hN2, hA, hX⟩ := C
  exact W.vret hx hb hr (fun t ht hW => ⟨⟨u, rfl, hG, by rw [ht]; exact hP, va_K.moved hW.alike hK, hD⟩, hS.F ht⟩) hS.2.2 hdg
end CWS
theorem CTn.of {S : Type} {l : Launch} {D : va_G} {cy : Nat → ClassId} {zz : (Nat → Nat) × (Nat → Nat)} {y : MethodName} {cc : ByteArray} {maxL : Nat} {rm : Room} {As : List Value} {h0 : Nat} {e0 : va_E} {k n : Nat} {G : S → Prop} {post : S → va_W} (hy : plainName y.cls = true) (hi : y.name = "<init>")
    (body : ∀ (sz : Nat) (p : Program) (e : Env) (s : State) (m : MethodId) (args : Array Value) (below : List Frame) (meth : Method) (c : Code) (H : Heap) (ls : Array Slot), CW p s m args meth c cc maxL y.cls D cy zz (va_A [(h0, e0)] sz) → meth.sig.returnType = none → meth.name = "<init>" → va_P D vwCl [(h0, e0)] H → va_D (va_A [(h0, e0)] sz) [(h0, e0)] → va_S (va_A [(h0, e0)] sz) s.heap H [] → lv_has ls maxL (lv_args 0 (.ref h0 :: As)) → W p l e rm s m args below meth c H [] 0 0 (MQ below (va_Qv G (fun u t => va_P D vwCl (post u) t.heap ∧ va_K D vwCl (tysC cy) t ∧ va_D (va_A [(h0, e0)] sz) (post u)) (va_A [(h0, e0)] sz)) args s k n (va_A [(h0, e0)] sz)) (F0 m 0 ls []))
    (hAs : (lg_sl (.ref h0 :: As)).length ≤ maxL) : CTn l D cy zz y (.code y cc maxL none :: tb) rm As h0 e0 k n G post := by
  intro sz
  refine Met.ofW (cc := cc) (maxL := maxL) (ret := none) hy rfl ?_
  intro p e s m args below meth c s₁ B hml hv
  obtain ⟨rfl, hsz, hP, hK, hD0, hN, hX⟩ := hv
  subst hsz
  have hts := atoms_spec (ws := .code y cc maxL none :: tb) B.pre
  have hl := lv_entry (.ref h0 :: As) (n := maxL) hAs
  rw [lg_entry_eq]
  exact body s.heap.size p e s m _ below meth c s.heap _ ⟨B.exec, B.bytes, hml, findClass_of_methodNamed B.named, fun w h => hts w (List.mem_cons_of_mem _ h), B.notSynchronized, hK, hN, fun q h => Or.inr h, hX⟩ B.returns ((name_of_methodNamed B.named B.method).1.trans hi) hP hD0.self va_S.rf hl
