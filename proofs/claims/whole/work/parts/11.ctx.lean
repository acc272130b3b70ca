/-! CONTRACTS over a pool, calls, cells -/
abbrev nestW : Cond := .methodLinkNest RX2 94 yX5_hasWater "BedsocksKeepRoads"
/-- the texts that the class holds as constants, by their places: the words of the texts, the first law -/
def ztx : List String := ["goes", "minds", "wears", "or", "and", "not", "stitch", "column", "row", "wet", "wool", "more", "goes 4 ; minds wet * 2 ; wears 1 ; "]
def zbyt : List (List Int32) := ztx.map (fun t => t.toList.map (fun c => Int32.ofNat c.toNat))
def zlen : List Nat := zbyt.map (fun t => t.length)
def XP (zz : (Nat → Nat) × (Nat → Nat)) (A : Nat → Prop) (U : State) (H : Heap) : Prop := vk_S 13 zlen zbyt zz.1 zz.2 A U H ∧ va_Z "java/lang/String" "COMPACT_STRINGS" "Z" (.int 1) A U H ∧ va_Zq "jdk/internal/util/Preconditions" "SIOOBE_FORMATTER" "Ljava/util/function/BiFunction;" A U H ∧ vk_R RX5 49 (ztx.getD 12 "") (zz.1 12) U ∧ ∀ i, i < 12 → vk_R RX0 (113 + 2 * i) (ztx.getD i "") (zz.1 i) U
theorem XP.same {zz : (Nat → Nat) × (Nat → Nat)} {A : Nat → Prop} {u U : State} (hv : U.vm = u.vm) {H : Heap} (h : XP zz A u H) : XP zz A U H :=
  ⟨vk_S.moved (hv ▸ Vm.Alike.refl u.vm) h.1, va_Z.moved (hv ▸ Vm.Alike.refl u.vm) h.2.1, va_Zq.moved (hv ▸ Vm.Alike.refl u.vm) h.2.2.1, vk_R.same hv h.2.2.2.1, fun i hi => vk_R.same hv (h.2.2.2.2 i hi)⟩
theorem XP.pass {zz : (Nat → Nat) × (Nat → Nat)} {A : Nat → Prop} {s U : State} {H : Heap} {locs : List Loc} {cy : Nat → ClassId} {ad : Nat → Nat} {b n : Nat} {M : Mem} (h : XP zz A s s.heap) (hS : va_S A s.heap H locs) (hD : va_D A (pool cy ad b n M)) (hA : ∀ q, s.heap.size ≤ q → A q) (hU : U.heap = H) (hW : s.WarmedH U.vm) : XP zz (pA ad b n U.heap.size) U U.heap := by
  rw [hU]
  have hs : ∀ q, pA ad b n H.size q → A q := fun q hq => pA_sub hD hA hS.1 q hq
  exact ⟨((vk_S.moved hW.alike h.1).kept hS.2.1).narrow hs, ((va_Z.moved hW.alike h.2.1).kept hS.2.1).narrow hs, ((va_Zq.moved hW.alike h.2.2.1).kept hS.2.1).narrow hs, vk_R.warm hW h.2.2.2.1, fun i hi => vk_R.warm hW (h.2.2.2.2 i hi)⟩
theorem XP.zq {zz : (Nat → Nat) × (Nat → Nat)} {A : Nat → Prop} {U : State} {H : Heap} (h : XP zz A U H) : ∃ o : Option Nat, va_Z "jdk/internal/util/Preconditions" "SIOOBE_FORMATTER" "Ljava/util/function/BiFunction;" (va_rf o) A U H := by
  rcases h.2.2.1 with h1 | ⟨t, h1⟩
  · exact ⟨none, h1⟩
  · exact ⟨some t, h1⟩
def PP (D : va_G) (cy : Nat → ClassId) (ad : Nat → Nat) (zz : (Nat → Nat) × (Nat → Nat)) (b n : Nat) (M : Mem) (U : State) : Prop := va_P D vwCl (pool cy ad b n M) U.heap ∧ va_K D vwCl (tysC cy) U ∧ va_D (fun _ => True) (pool cy ad b n M) ∧ va_Nw nestW U ∧ XP zz (pA ad b n U.heap.size) U U.heap
def PA (D : va_G) (cy : Nat → ClassId) (ad : Nat → Nat) (b n : Nat) (A : Nat → Prop) (M : Mem) (t : State) : Prop := va_P D vwCl (pool cy ad b n M) t.heap ∧ va_K D vwCl (tysC cy) t ∧ va_D A (pool cy ad b n M)
def CX (p : Program) (s : State) (m : MethodId) (args : Array Value) (meth : Method) (c : Code) (cc : ByteArray) (nL : Nat) (retc : Option FieldType) (own : String) (D : va_G) (cy : Nat → ClassId) (ad : Nat → Nat) (zz : (Nat → Nat) × (Nat → Nat)) (b n : Nat) (A : Nat → Prop) : Prop :=
  p.tables.exec = Jvm.exec ∧ c.code = cc ∧ c.maxLocals = nL ∧ s.vm.findClass own = some m.cls ∧ (∀ w ∈ tb, w.before args s = true) ∧ meth.sig.returnType = retc ∧ meth.locks = false ∧ va_K D vwCl (tysC cy) s ∧ va_Nw nestW s ∧ (∀ q, s.heap.size ≤ q → A q) ∧ XP zz A s s.heap
def b2i (x : Bool) : Int32 := if x = true then 1 else 0
theorem b2i_0 {x : Bool} (h : b2i x = 0) : x = false := by cases x <;> first | rfl | exact absurd h (by decide)
theorem b2i_1 {x : Bool} (h : ¬ b2i x = 0) : x = true := by cases x <;> first | rfl | exact absurd rfl h
theorem b2i_nar (x : Bool) : narrow .boolean (.int (b2i x)) = .int (b2i x) := by cases x <;> rfl
def CTi (l : Launch) (D : va_G) (cy : Nat → ClassId) (ad : Nat → Nat) (zz : (Nat → Nat) × (Nat → Nat)) (b n : Nat) (y : MethodName) (ws : List Cond) (rm : Room) (As : List Value) (M : Mem) (r : Int32) (M' : Mem) : Prop :=
  ∀ sz, Met l y ws rm (va_Pc As (fun U => U.heap.size = sz ∧ PP D cy ad zz b n M U)) (va_Qi (fun (x : Int32) (_ : Unit) => x = r) (fun _ t => PA D cy ad b n (pA ad b n sz) M' t) (pA ad b n sz)) 0 0 (pA ad b n sz)
def CTl (l : Launch) (D : va_G) (cy : Nat → ClassId) (ad : Nat → Nat) (zz : (Nat → Nat) × (Nat → Nat)) (b n : Nat) (y : MethodName) (ws : List Cond) (rm : Room) (As : List Value) (M : Mem) (r : Int64) (M' : Mem) : Prop :=
  ∀ sz, Met l y ws rm (va_Pc As (fun U => U.heap.size = sz ∧ PP D cy ad zz b n M U)) (va_Ql (fun (x : Int64) (_ : Unit) => x = r) (fun _ t => PA D cy ad b n (pA ad b n sz) M' t) (pA ad b n sz)) 0 0 (pA ad b n sz)
def CTq (l : Launch) (D : va_G) (cy : Nat → ClassId) (ad : Nat → Nat) (zz : (Nat → Nat) × (Nat → Nat)) (b n : Nat) (y : MethodName) (ws : List Cond) (rm : Room) (As : List Value) (M : Mem) (r : Option Nat) (M' : Mem) : Prop :=
  ∀ sz, Met l y ws rm (va_Pc As (fun U => U.heap.size = sz ∧ PP D cy ad zz b n M U)) (va_Qq (fun (x : Option Nat) (_ : Unit) => x = r.map ad) (fun _ t => PA D cy ad b n (pA ad b n sz) M' t) (pA ad b n sz)) 0 0 (pA ad b n sz)
def CTs (l : Launch) (D : va_G) (cy : Nat → ClassId) (ad : Nat → Nat) (zz : (Nat → Nat) × (Nat → Nat)) (b n : Nat) (y : MethodName) (ws : List Cond) (rm : Room) (As : List Value) (M : Mem) (r : Nat) (M' : Mem) : Prop :=
  ∀ sz, Met l y ws rm (va_Pc As (fun U => U.heap.size = sz ∧ PP D cy ad zz b n M U)) (va_Qq (fun (x : Option Nat) (_ : Unit) => x = some (zz.1 r)) (fun _ t => PA D cy ad b n (pA ad b n sz) M' t) (pA ad b n sz)) 0 0 (pA ad b n sz)
def CTv (l : Launch) (D : va_G) (cy : Nat → ClassId) (ad : Nat → Nat) (zz : (Nat → Nat) × (Nat → Nat)) (b n : Nat) (y : MethodName) (ws : List Cond) (rm : Room) (As : List Value) (M : Mem) (M' : Mem) : Prop :=
  ∀ sz, Met l y ws rm (va_Pc As (fun U => U.heap.size = sz ∧ PP D cy ad zz b n M U)) (va_Qv (fun (_ : Unit) => True) (fun _ t => PA D cy ad b n (pA ad b n sz) M' t) (pA ad b n sz)) 0 0 (pA ad b n sz)
theorem pp_blind {D : va_G} {cy : Nat → ClassId} {ad : Nat → Nat} {zz : (Nat → Nat) × (Nat → Nat)} {b n : Nat} {M : Mem} {As : List Value} {sz : Nat} : FrameBlind (va_Pc As (fun U => U.heap.size = sz ∧ PP D cy ad zz b n M U)) := fun a U g mk q => by
  obtain ⟨q0, q1, qP, qK, qD, qN, qX⟩ := q
  exact ⟨q0, q1, qP, va_K.moved (u := U) (U := U.calling g mk a) (Vm.Alike.refl U.vm) qK, qD, va_Nw.same rfl (u := U) rfl qN, XP.same (U := U.calling g mk a) rfl qX⟩
section CXS
variable {p : Program} {l : Launch} {e : Env} {R : Room} {s : State} {m : MethodId} {args : Array Value} {below : List Frame} {meth : Method} {c : Code} {H : Heap} {locs : List Loc} {Q : State → Prop} {cc : ByteArray} {nL : Nat} {retc : Option FieldType} {own : String} {D : va_G} {cy : Nat → ClassId} {ad : Nat → Nat} {zz : (Nat → Nat) × (Nat → Nat)} {b n : Nat} {A : Nat → Prop} {M : Mem} {pc : Nat} {ls : Array Slot} {rest : List Value}
/-- a contract out of a walk -/
theorem CX.of {y : MethodName} {rm : Room} {maxL : Nat} {ret : Option FieldType} {sz : Nat} {As : List Value} {Qc : Array Value → State → Outcome → State → Prop} (hy : plainName y.cls = true)
    (body : ∀ (p : Program) (e : Env) (s : State) (m : MethodId) (args : Array Value) (below : List Frame) (meth : Method) (c : Code) (H : Heap) (ls : Array Slot), CX p s m args meth c cc maxL ret y.cls D cy ad zz b n (pA ad b n sz) → va_P D vwCl (pool cy ad b n M) H → va_D (pA ad b n sz) (pool cy ad b n M) → va_S (pA ad b n sz) s.heap H [] → lv_has ls maxL (lv_args 0 As) → W p l e rm s m args below meth c H [] 0 0 (MQ below Qc args s 0 0 (pA ad b n sz)) (F0 m 0 ls []))
    (hAs : (lg_sl As).length ≤ maxL) : Met l y (.code y cc maxL ret :: tb) rm (va_Pc As (fun U => U.heap.size = sz ∧ PP D cy ad zz b n M U)) Qc 0 0 (pA ad b n sz) := by
  refine Met.ofW (cc := cc) (maxL := maxL) (ret := ret) hy rfl ?_
  intro p e s m args below meth c s₁ B hml hv
  obtain ⟨rfl, hsz, hP, hK, hD0, hN, hX⟩ := hv
  subst hsz
  have hts := atoms_spec (ws := .code y cc maxL ret :: tb) B.pre
  have hl := lv_entry As (n := maxL) hAs
  rw [lg_entry_eq]
  exact body p e s m _ below meth c s.heap _ ⟨B.exec, B.bytes, hml, findClass_of_methodNamed B.named, fun w h => hts w (List.mem_cons_of_mem _ h), B.returns, B.notSynchronized, hK, hN, fun q h => Or.inr h, hX⟩ hP (pA_D hD0) va_S.rf hl

theorem call_iV (C : CX p s m args meth c cc nL retc own D cy ad zz b n A) (hP : va_P D vwCl (pool cy ad b n M) H) (hD : va_D A (pool cy ad b n M)) (hS : va_S A s.heap H locs) {index j maxL : Nat} {y : MethodName} {bytes : ByteArray} {ret : Option FieldType} {rm : Room} {As st0 : List Value} {r : Int32} {M' : Mem} {C0 : String}
    (hM : CTi l D cy ad zz b n y (.code y bytes maxL ret :: tb) rm (.ref (ad j) :: As) M r M')
    (hj : inP b n j) (hc : ∃ (ci : Nat) (fs : List Value) (q : vw_C), ent cy ad M j = .inr (ci, fs) ∧ vwCl[ci]? = some q ∧ q.1 = C0) (hG : GoodIn tb (wsV own index C0 y (.code y bytes maxL ret :: tb)))
    (hd : y.cls = C0 ∧ y.cls ≠ "java/lang/invoke/MethodHandle" ∧ y.cls ≠ "java/lang/invoke/VarHandle" ∧ (parseMethodDescriptor y.desc).map (fun d => d.parameters.length) = some As.length)
    (hrm : rm.cells = 0 ∧ rm.slots = 0) (hR : rm.frames + 1 ≤ R.frames ∧ 8 + (maxL + 11) + rm.locals ≤ R.locals) (hls : ls.size = nL) (hst : st0 = As.reverse ++ .ref (ad j) :: rest) (hw : (rest.map fun v => v.category).sum ≤ 8) (hdg : decode cc pc = .ok (.invokevirtual index, 3))
    (kk : ∀ (H : Heap) (locs : List Loc), va_P D vwCl (pool cy ad b n M') H → va_D A (pool cy ad b n M') → va_S A s.heap H locs → W p l e R s m args below meth c H locs 0 0 Q (F0 m (pc + 3) ls (.int r :: rest))) : W p l e R s m args below meth c H locs 0 0 Q (F0 m pc ls st0) := by
  obtain ⟨hx, hb, hml, hown, hts, hr, hlk, hK, hN, hA, hX⟩ := C
  have hcell : H.size = s.heap.size + (H.size - s.heap.size) := by have := hS.1; omega
  refine va_calli (va_runV (As := As) (rest := rest) ⟨hx, hb, hml, hown, hts⟩ (hM H.size) (cwV As.length hts hG rfl hrm.1 hrm.2 hd hR) ⟨pp_blind, ?_, fun U hU hW => ⟨rfl, by rw [hU], by rw [hU]; exact hP, va_K.moved hW.alike hK, hD.weaken (fun _ _ _ _ => trivial), va_Nw.warmM hW hN, XP.pass hX hS hD hA hU hW⟩⟩ rfl rfl hls hst (lv_room hw) hdg ⟨by omega, by omega⟩) hS (fun q _ h => pA_sub hD hA hS.1 q h) (fun q h => pA_sub hD hA hS.1 q h) (fun r1 u t H1 locs1 ht hvm hw1 hB hz1 hk1 hS1 => ?_)
  · obtain ⟨ci, fs, q, e1, e2, rfl⟩ := hc
    exact va_recv hK hP e2 (q0 := j - b) (by rw [← e1]; exact pool_at hj)
  · obtain ⟨hP1, hK1, hD1⟩ := hB
    rw [ht] at hP1
    subst hw1
    exact kk H1 locs1 hP1 (pool_D hD) hS1
theorem call_lV (C : CX p s m args meth c cc nL retc own D cy ad zz b n A) (hP : va_P D vwCl (pool cy ad b n M) H) (hD : va_D A (pool cy ad b n M)) (hS : va_S A s.heap H locs) {index j maxL : Nat} {y : MethodName} {bytes : ByteArray} {ret : Option FieldType} {rm : Room} {As st0 : List Value} {r : Int64} {M' : Mem} {C0 : String}
    (hM : CTl l D cy ad zz b n y (.code y bytes maxL ret :: tb) rm (.ref (ad j) :: As) M r M')
    (hj : inP b n j) (hc : ∃ (ci : Nat) (fs : List Value) (q : vw_C), ent cy ad M j = .inr (ci, fs) ∧ vwCl[ci]? = some q ∧ q.1 = C0) (hG : GoodIn tb (wsV own index C0 y (.code y bytes maxL ret :: tb)))
    (hd : y.cls = C0 ∧ y.cls ≠ "java/lang/invoke/MethodHandle" ∧ y.cls ≠ "java/lang/invoke/VarHandle" ∧ (parseMethodDescriptor y.desc).map (fun d => d.parameters.length) = some As.length)
    (hrm : rm.cells = 0 ∧ rm.slots = 0) (hR : rm.frames + 1 ≤ R.frames ∧ 8 + (maxL + 11) + rm.locals ≤ R.locals) (hls : ls.size = nL) (hst : st0 = As.reverse ++ .ref (ad j) :: rest) (hw : (rest.map fun v => v.category).sum ≤ 8) (hdg : decode cc pc = .ok (.invokevirtual index, 3))
    (kk : ∀ (H : Heap) (locs : List Loc), va_P D vwCl (pool cy ad b n M') H → va_D A (pool cy ad b n M') → va_S A s.heap H locs → W p l e R s m args below meth c H locs 0 0 Q (F0 m (pc + 3) ls (.long r :: rest))) : W p l e R s m args below meth c H locs 0 0 Q (F0 m pc ls st0) := by
  obtain ⟨hx, hb, hml, hown, hts, hr, hlk, hK, hN, hA, hX⟩ := C
  have hcell : H.size = s.heap.size + (H.size - s.heap.size) := by have := hS.1; omega
  refine va_calll (va_runV (As := As) (rest := rest) ⟨hx, hb, hml, hown, hts⟩ (hM H.size) (cwV As.length hts hG rfl hrm.1 hrm.2 hd hR) ⟨pp_blind, ?_, fun U hU hW => ⟨rfl, by rw [hU], by rw [hU]; exact hP, va_K.moved hW.alike hK, hD.weaken (fun _ _ _ _ => trivial), va_Nw.warmM hW hN, XP.pass hX hS hD hA hU hW⟩⟩ rfl rfl hls hst (lv_room hw) hdg ⟨by omega, by omega⟩) hS (fun q _ h => pA_sub hD hA hS.1 q h) (fun q h => pA_sub hD hA hS.1 q h) (fun r1 u t H1 locs1 ht hvm hw1 hB hz1 hk1 hS1 => ?_)
  · obtain ⟨ci, fs, q, e1, e2, rfl⟩ := hc
    exact va_recv hK hP e2 (q0 := j - b) (by rw [← e1]; exact pool_at hj)
  · obtain ⟨hP1, hK1, hD1⟩ := hB
    rw [ht] at hP1
    subst hw1
    exact kk H1 locs1 hP1 (pool_D hD) hS1
theorem call_qV (C : CX p s m args meth c cc nL retc own D cy ad zz b n A) (hP : va_P D vwCl (pool cy ad b n M) H) (hD : va_D A (pool cy ad b n M)) (hS : va_S A s.heap H locs) {index j maxL : Nat} {y : MethodName} {bytes : ByteArray} {ret : Option FieldType} {rm : Room} {As st0 : List Value} {r : Option Nat} {M' : Mem} {C0 : String}
    (hM : CTq l D cy ad zz b n y (.code y bytes maxL ret :: tb) rm (.ref (ad j) :: As) M r M')
    (hj : inP b n j) (hc : ∃ (ci : Nat) (fs : List Value) (q : vw_C), ent cy ad M j = .inr (ci, fs) ∧ vwCl[ci]? = some q ∧ q.1 = C0) (hG : GoodIn tb (wsV own index C0 y (.code y bytes maxL ret :: tb)))
    (hd : y.cls = C0 ∧ y.cls ≠ "java/lang/invoke/MethodHandle" ∧ y.cls ≠ "java/lang/invoke/VarHandle" ∧ (parseMethodDescriptor y.desc).map (fun d => d.parameters.length) = some As.length)
    (hrm : rm.cells = 0 ∧ rm.slots = 0) (hR : rm.frames + 1 ≤ R.frames ∧ 8 + (maxL + 11) + rm.locals ≤ R.locals) (hls : ls.size = nL) (hst : st0 = As.reverse ++ .ref (ad j) :: rest) (hw : (rest.map fun v => v.category).sum ≤ 8) (hdg : decode cc pc = .ok (.invokevirtual index, 3))
    (kk : ∀ (H : Heap) (locs : List Loc), va_P D vwCl (pool cy ad b n M') H → va_D A (pool cy ad b n M') → va_S A s.heap H locs → W p l e R s m args below meth c H locs 0 0 Q (F0 m (pc + 3) ls (va_re ad r :: rest))) : W p l e R s m args below meth c H locs 0 0 Q (F0 m pc ls st0) := by
  obtain ⟨hx, hb, hml, hown, hts, hr, hlk, hK, hN, hA, hX⟩ := C
  have hcell : H.size = s.heap.size + (H.size - s.heap.size) := by have := hS.1; omega
  refine va_callq (va_runV (As := As) (rest := rest) ⟨hx, hb, hml, hown, hts⟩ (hM H.size) (cwV As.length hts hG rfl hrm.1 hrm.2 hd hR) ⟨pp_blind, ?_, fun U hU hW => ⟨rfl, by rw [hU], by rw [hU]; exact hP, va_K.moved hW.alike hK, hD.weaken (fun _ _ _ _ => trivial), va_Nw.warmM hW hN, XP.pass hX hS hD hA hU hW⟩⟩ rfl rfl hls hst (lv_room hw) hdg ⟨by omega, by omega⟩) hS (fun q _ h => pA_sub hD hA hS.1 q h) (fun q h => pA_sub hD hA hS.1 q h) (fun r1 u t H1 locs1 ht hvm hw1 hB hz1 hk1 hS1 => ?_)
  · obtain ⟨ci, fs, q, e1, e2, rfl⟩ := hc
    exact va_recv hK hP e2 (q0 := j - b) (by rw [← e1]; exact pool_at hj)
  · obtain ⟨hP1, hK1, hD1⟩ := hB
    rw [ht] at hP1
    subst hw1
    exact kk H1 locs1 hP1 (pool_D hD) hS1
theorem call_vV (C : CX p s m args meth c cc nL retc own D cy ad zz b n A) (hP : va_P D vwCl (pool cy ad b n M) H) (hD : va_D A (pool cy ad b n M)) (hS : va_S A s.heap H locs) {index j maxL : Nat} {y : MethodName} {bytes : ByteArray} {ret : Option FieldType} {rm : Room} {As st0 : List Value} {M' : Mem} {C0 : String}
    (hM : CTv l D cy ad zz b n y (.code y bytes maxL ret :: tb) rm (.ref (ad j) :: As) M M')
    (hj : inP b n j) (hc : ∃ (ci : Nat) (fs : List Value) (q : vw_C), ent cy ad M j = .inr (ci, fs) ∧ vwCl[ci]? = some q ∧ q.1 = C0) (hG : GoodIn tb (wsV own index C0 y (.code y bytes maxL ret :: tb)))
    (hd : y.cls = C0 ∧ y.cls ≠ "java/lang/invoke/MethodHandle" ∧ y.cls ≠ "java/lang/invoke/VarHandle" ∧ (parseMethodDescriptor y.desc).map (fun d => d.parameters.length) = some As.length)
    (hrm : rm.cells = 0 ∧ rm.slots = 0) (hR : rm.frames + 1 ≤ R.frames ∧ 8 + (maxL + 11) + rm.locals ≤ R.locals) (hls : ls.size = nL) (hst : st0 = As.reverse ++ .ref (ad j) :: rest) (hw : (rest.map fun v => v.category).sum ≤ 8) (hdg : decode cc pc = .ok (.invokevirtual index, 3))
    (kk : ∀ (H : Heap) (locs : List Loc), va_P D vwCl (pool cy ad b n M') H → va_D A (pool cy ad b n M') → va_S A s.heap H locs → W p l e R s m args below meth c H locs 0 0 Q (F0 m (pc + 3) ls rest)) : W p l e R s m args below meth c H locs 0 0 Q (F0 m pc ls st0) := by
  obtain ⟨hx, hb, hml, hown, hts, hr, hlk, hK, hN, hA, hX⟩ := C
  have hcell : H.size = s.heap.size + (H.size - s.heap.size) := by have := hS.1; omega
  refine va_callv (va_runV (As := As) (rest := rest) ⟨hx, hb, hml, hown, hts⟩ (hM H.size) (cwV As.length hts hG rfl hrm.1 hrm.2 hd hR) ⟨pp_blind, ?_, fun U hU hW => ⟨rfl, by rw [hU], by rw [hU]; exact hP, va_K.moved hW.alike hK, hD.weaken (fun _ _ _ _ => trivial), va_Nw.warmM hW hN, XP.pass hX hS hD hA hU hW⟩⟩ rfl rfl hls hst (lv_room hw) hdg ⟨by omega, by omega⟩) hS (fun q _ h => pA_sub hD hA hS.1 q h) (fun q h => pA_sub hD hA hS.1 q h) (fun u t H1 locs1 ht hvm hw1 hB hz1 hk1 hS1 => ?_)
  · obtain ⟨ci, fs, q, e1, e2, rfl⟩ := hc
    exact va_recv hK hP e2 (q0 := j - b) (by rw [← e1]; exact pool_at hj)
  · obtain ⟨hP1, hK1, hD1⟩ := hB
    rw [ht] at hP1
    exact kk H1 locs1 hP1 (pool_D hD) hS1
theorem call_iS (C : CX p s m args meth c cc nL retc own D cy ad zz b n A) (hP : va_P D vwCl (pool cy ad b n M) H) (hD : va_D A (pool cy ad b n M)) (hS : va_S A s.heap H locs) {index maxL : Nat} {y : MethodName} {bytes : ByteArray} {ret : Option FieldType} {rm : Room} {As st0 : List Value} {r : Int32} {M' : Mem}
    (hM : CTi l D cy ad zz b n y (.code y bytes maxL ret :: tb) rm As M r M')
    (hG : GoodIn tb (va_wsS own index y (.code y bytes maxL ret :: tb)))
    (hd : y.cls ≠ "java/lang/invoke/MethodHandle" ∧ y.cls ≠ "java/lang/invoke/VarHandle" ∧ (parseMethodDescriptor y.desc).map (fun d => d.parameters.length) = some As.length)
    (hrm : rm.cells = 0 ∧ rm.slots = 0) (hR : rm.frames + 1 ≤ R.frames ∧ 8 + (maxL + 11) + rm.locals ≤ R.locals) (hls : ls.size = nL) (hst : st0 = As.reverse ++ rest) (hw : (rest.map fun v => v.category).sum ≤ 8) (hdg : decode cc pc = .ok (.invokestatic index, 3))
    (kk : ∀ (H : Heap) (locs : List Loc), va_P D vwCl (pool cy ad b n M') H → va_D A (pool cy ad b n M') → va_S A s.heap H locs → W p l e R s m args below meth c H locs 0 0 Q (F0 m (pc + 3) ls (.int r :: rest))) : W p l e R s m args below meth c H locs 0 0 Q (F0 m pc ls st0) := by
  obtain ⟨hx, hb, hml, hown, hts, hr, hlk, hK, hN, hA, hX⟩ := C
  have hcell : H.size = s.heap.size + (H.size - s.heap.size) := by have := hS.1; omega
  refine va_calli (va_runS (As := As) (rest := rest) ⟨hx, hb, hml, hown, hts⟩ (hM H.size) (va_cwS As.length hts hG rfl hrm.1 hrm.2 hd hR) ⟨pp_blind, fun U hU hW => ⟨rfl, by rw [hU], by rw [hU]; exact hP, va_K.moved hW.alike hK, hD.weaken (fun _ _ _ _ => trivial), va_Nw.warmM hW hN, XP.pass hX hS hD hA hU hW⟩⟩ rfl rfl hls hst (lv_room hw) hdg ⟨by omega, by omega⟩) hS (fun q _ h => pA_sub hD hA hS.1 q h) (fun q h => pA_sub hD hA hS.1 q h) (fun r1 u t H1 locs1 ht hvm hw1 hB hz1 hk1 hS1 => ?_)
  obtain ⟨hP1, hK1, hD1⟩ := hB
  rw [ht] at hP1
  subst hw1
  exact kk H1 locs1 hP1 (pool_D hD) hS1
theorem call_lS (C : CX p s m args meth c cc nL retc own D cy ad zz b n A) (hP : va_P D vwCl (pool cy ad b n M) H) (hD : va_D A (pool cy ad b n M)) (hS : va_S A s.heap H locs) {index maxL : Nat} {y : MethodName} {bytes : ByteArray} {ret : Option FieldType} {rm : Room} {As st0 : List Value} {r : Int64} {M' : Mem}
    (hM : CTl l D cy ad zz b n y (.code y bytes maxL ret :: tb) rm As M r M')
    (hG : GoodIn tb (va_wsS own index y (.code y bytes maxL ret :: tb)))
    (hd : y.cls ≠ "java/lang/invoke/MethodHandle" ∧ y.cls ≠ "java/lang/invoke/VarHandle" ∧ (parseMethodDescriptor y.desc).map (fun d => d.parameters.length) = some As.length)
    (hrm : rm.cells = 0 ∧ rm.slots = 0) (hR : rm.frames + 1 ≤ R.frames ∧ 8 + (maxL + 11) + rm.locals ≤ R.locals) (hls : ls.size = nL) (hst : st0 = As.reverse ++ rest) (hw : (rest.map fun v => v.category).sum ≤ 8) (hdg : decode cc pc = .ok (.invokestatic index, 3))
    (kk : ∀ (H : Heap) (locs : List Loc), va_P D vwCl (pool cy ad b n M') H → va_D A (pool cy ad b n M') → va_S A s.heap H locs → W p l e R s m args below meth c H locs 0 0 Q (F0 m (pc + 3) ls (.long r :: rest))) : W p l e R s m args below meth c H locs 0 0 Q (F0 m pc ls st0) := by
  obtain ⟨hx, hb, hml, hown, hts, hr, hlk, hK, hN, hA, hX⟩ := C
  have hcell : H.size = s.heap.size + (H.size - s.heap.size) := by have := hS.1; omega
  refine va_calll (va_runS (As := As) (rest := rest) ⟨hx, hb, hml, hown, hts⟩ (hM H.size) (va_cwS As.length hts hG rfl hrm.1 hrm.2 hd hR) ⟨pp_blind, fun U hU hW => ⟨rfl, by rw [hU], by rw [hU]; exact hP, va_K.moved hW.alike hK, hD.weaken (fun _ _ _ _ => trivial), va_Nw.warmM hW hN, XP.pass hX hS hD hA hU hW⟩⟩ rfl rfl hls hst (lv_room hw) hdg ⟨by omega, by omega⟩) hS (fun q _ h => pA_sub hD hA hS.1 q h) (fun q h => pA_sub hD hA hS.1 q h) (fun r1 u t H1 locs1 ht hvm hw1 hB hz1 hk1 hS1 => ?_)
  obtain ⟨hP1, hK1, hD1⟩ := hB
  rw [ht] at hP1
  subst hw1
  exact kk H1 locs1 hP1 (pool_D hD) hS1
theorem call_qS (C : CX p s m args meth c cc nL retc own D cy ad zz b n A) (hP : va_P D vwCl (pool cy ad b n M) H) (hD : va_D A (pool cy ad b n M)) (hS : va_S A s.heap H locs) {index maxL : Nat} {y : MethodName} {bytes : ByteArray} {ret : Option FieldType} {rm : Room} {As st0 : List Value} {r : Option Nat} {M' : Mem}
    (hM : CTq l D cy ad zz b n y (.code y bytes maxL ret :: tb) rm As M r M')
    (hG : GoodIn tb (va_wsS own index y (.code y bytes maxL ret :: tb)))
    (hd : y.cls ≠ "java/lang/invoke/MethodHandle" ∧ y.cls ≠ "java/lang/invoke/VarHandle" ∧ (parseMethodDescriptor y.desc).map (fun d => d.parameters.length) = some As.length)
    (hrm : rm.cells = 0 ∧ rm.slots = 0) (hR : rm.frames + 1 ≤ R.frames ∧ 8 + (maxL + 11) + rm.locals ≤ R.locals) (hls : ls.size = nL) (hst : st0 = As.reverse ++ rest) (hw : (rest.map fun v => v.category).sum ≤ 8) (hdg : decode cc pc = .ok (.invokestatic index, 3))
    (kk : ∀ (H : Heap) (locs : List Loc), va_P D vwCl (pool cy ad b n M') H → va_D A (pool cy ad b n M') → va_S A s.heap H locs → W p l e R s m args below meth c H locs 0 0 Q (F0 m (pc + 3) ls (va_re ad r :: rest))) : W p l e R s m args below meth c H locs 0 0 Q (F0 m pc ls st0) := by
  obtain ⟨hx, hb, hml, hown, hts, hr, hlk, hK, hN, hA, hX⟩ := C
  have hcell : H.size = s.heap.size + (H.size - s.heap.size) := by have := hS.1; omega
  refine va_callq (va_runS (As := As) (rest := rest) ⟨hx, hb, hml, hown, hts⟩ (hM H.size) (va_cwS As.length hts hG rfl hrm.1 hrm.2 hd hR) ⟨pp_blind, fun U hU hW => ⟨rfl, by rw [hU], by rw [hU]; exact hP, va_K.moved hW.alike hK, hD.weaken (fun _ _ _ _ => trivial), va_Nw.warmM hW hN, XP.pass hX hS hD hA hU hW⟩⟩ rfl rfl hls hst (lv_room hw) hdg ⟨by omega, by omega⟩) hS (fun q _ h => pA_sub hD hA hS.1 q h) (fun q h => pA_sub hD hA hS.1 q h) (fun r1 u t H1 locs1 ht hvm hw1 hB hz1 hk1 hS1 => ?_)
  obtain ⟨hP1, hK1, hD1⟩ := hB
  rw [ht] at hP1
  subst hw1
  exact kk H1 locs1 hP1 (pool_D hD) hS1
theorem call_vS (C : CX p s m args meth c cc nL retc own D cy ad zz b n A) (hP : va_P D vwCl (pool cy ad b n M) H) (hD : va_D A (pool cy ad b n M)) (hS : va_S A s.heap H locs) {index maxL : Nat} {y : MethodName} {bytes : ByteArray} {ret : Option FieldType} {rm : Room} {As st0 : List Value} {M' : Mem}
    (hM : CTv l D cy ad zz b n y (.code y bytes maxL ret :: tb) rm As M M')
    (hG : GoodIn tb (va_wsS own index y (.code y bytes maxL ret :: tb)))
    (hd : y.cls ≠ "java/lang/invoke/MethodHandle" ∧ y.cls ≠ "java/lang/invoke/VarHandle" ∧ (parseMethodDescriptor y.desc).map (fun d => d.parameters.length) = some As.length)
    (hrm : rm.cells = 0 ∧ rm.slots = 0) (hR : rm.frames + 1 ≤ R.frames ∧ 8 + (maxL + 11) + rm.locals ≤ R.locals) (hls : ls.size = nL) (hst : st0 = As.reverse ++ rest) (hw : (rest.map fun v => v.category).sum ≤ 8) (hdg : decode cc pc = .ok (.invokestatic index, 3))
    (kk : ∀ (H : Heap) (locs : List Loc), va_P D vwCl (pool cy ad b n M') H → va_D A (pool cy ad b n M') → va_S A s.heap H locs → W p l e R s m args below meth c H locs 0 0 Q (F0 m (pc + 3) ls rest)) : W p l e R s m args below meth c H locs 0 0 Q (F0 m pc ls st0) := by
  obtain ⟨hx, hb, hml, hown, hts, hr, hlk, hK, hN, hA, hX⟩ := C
  have hcell : H.size = s.heap.size + (H.size - s.heap.size) := by have := hS.1; omega
  refine va_callv (va_runS (As := As) (rest := rest) ⟨hx, hb, hml, hown, hts⟩ (hM H.size) (va_cwS As.length hts hG rfl hrm.1 hrm.2 hd hR) ⟨pp_blind, fun U hU hW => ⟨rfl, by rw [hU], by rw [hU]; exact hP, va_K.moved hW.alike hK, hD.weaken (fun _ _ _ _ => trivial), va_Nw.warmM hW hN, XP.pass hX hS hD hA hU hW⟩⟩ rfl rfl hls hst (lv_room hw) hdg ⟨by omega, by omega⟩) hS (fun q _ h => pA_sub hD hA hS.1 q h) (fun q h => pA_sub hD hA hS.1 q h) (fun u t H1 locs1 ht hvm hw1 hB hz1 hk1 hS1 => ?_)
  obtain ⟨hP1, hK1, hD1⟩ := hB
  rw [ht] at hP1
  exact kk H1 locs1 hP1 (pool_D hD) hS1
theorem call_iN (C : CX p s m args meth c cc nL retc own D cy ad zz b n A) (hP : va_P D vwCl (pool cy ad b n M) H) (hD : va_D A (pool cy ad b n M)) (hS : va_S A s.heap H locs) {index maxL : Nat} {y : MethodName} {bytes : ByteArray} {ret : Option FieldType} {rm : Room} {As st0 : List Value} {r : Int32} {M' : Mem}
    (hM : CTi l D cy ad zz b n y (.code y bytes maxL ret :: tb) rm As M r M')
    {host : String} (hNw : va_Nw (.methodLinkNest own index y host) s) (hst2 : (Cond.static y) ∈ tb) (hini2 : (Cond.initialized y.cls) ∈ tb) (hcd2 : (Cond.code y bytes maxL ret) ∈ tb)
    (hd : y.cls ≠ "java/lang/invoke/MethodHandle" ∧ y.cls ≠ "java/lang/invoke/VarHandle" ∧ (parseMethodDescriptor y.desc).map (fun d => d.parameters.length) = some As.length)
    (hrm : rm.cells = 0 ∧ rm.slots = 0) (hR : rm.frames + 1 ≤ R.frames ∧ 8 + (maxL + 11) + rm.locals ≤ R.locals) (hls : ls.size = nL) (hst : st0 = As.reverse ++ rest) (hw : (rest.map fun v => v.category).sum ≤ 8) (hdg : decode cc pc = .ok (.invokestatic index, 3))
    (kk : ∀ (H : Heap) (locs : List Loc), va_P D vwCl (pool cy ad b n M') H → va_D A (pool cy ad b n M') → va_S A s.heap H locs → W p l e R s m args below meth c H locs 0 0 Q (F0 m (pc + 3) ls (.int r :: rest))) : W p l e R s m args below meth c H locs 0 0 Q (F0 m pc ls st0) := by
  obtain ⟨hx, hb, hml, hown, hts, hr, hlk, hK, hN, hA, hX⟩ := C
  have hcell : H.size = s.heap.size + (H.size - s.heap.size) := by have := hS.1; omega
  refine va_calli (va_runSN (As := As) (rest := rest) ⟨hx, hb, hml, hown, hts⟩ (hM H.size) ⟨va_cnB As.length hts (tb_in (x := .code y bytes maxL ret) (tb_cons hcd2)) rfl hrm.1 hrm.2 hNw (hts _ hini2) hd hR, hts _ hst2, trivial⟩ ⟨pp_blind, fun U hU hW => ⟨rfl, by rw [hU], by rw [hU]; exact hP, va_K.moved hW.alike hK, hD.weaken (fun _ _ _ _ => trivial), va_Nw.warmM hW hN, XP.pass hX hS hD hA hU hW⟩⟩ rfl rfl hls hst (lv_room hw) hdg ⟨by omega, by omega⟩) hS (fun q _ h => pA_sub hD hA hS.1 q h) (fun q h => pA_sub hD hA hS.1 q h) (fun r1 u t H1 locs1 ht hvm hw1 hB hz1 hk1 hS1 => ?_)
  obtain ⟨hP1, hK1, hD1⟩ := hB
  rw [ht] at hP1
  subst hw1
  exact kk H1 locs1 hP1 (pool_D hD) hS1
theorem call_iT (C : CX p s m args meth c cc nL retc own D cy ad zz b n A) (hP : va_P D vwCl (pool cy ad b n M) H) (hD : va_D A (pool cy ad b n M)) (hS : va_S A s.heap H locs) {index j maxL : Nat} {y : MethodName} {bytes : ByteArray} {ret : Option FieldType} {rm : Room} {As st0 : List Value} {r : Int32} {M' : Mem} {C0 : String}
    (hM : CTi l D cy ad zz b n y (.code y bytes maxL ret :: tb) rm (.ref j :: As) M r M')
    (hc : ∃ cell : Cell, H[j]? = some cell ∧ cell.vm.isStatics = false ∧ s.vm.findClass C0 = some cell.cls) (hG : GoodIn tb (wsV own index C0 y (.code y bytes maxL ret :: tb)))
    (hd : y.cls = C0 ∧ y.cls ≠ "java/lang/invoke/MethodHandle" ∧ y.cls ≠ "java/lang/invoke/VarHandle" ∧ (parseMethodDescriptor y.desc).map (fun d => d.parameters.length) = some As.length)
    (hrm : rm.cells = 0 ∧ rm.slots = 0) (hR : rm.frames + 1 ≤ R.frames ∧ 8 + (maxL + 11) + rm.locals ≤ R.locals) (hls : ls.size = nL) (hst : st0 = As.reverse ++ .ref j :: rest) (hw : (rest.map fun v => v.category).sum ≤ 8) (hdg : decode cc pc = .ok (.invokevirtual index, 3))
    (kk : ∀ (H : Heap) (locs : List Loc), va_P D vwCl (pool cy ad b n M') H → va_D A (pool cy ad b n M') → va_S A s.heap H locs → W p l e R s m args below meth c H locs 0 0 Q (F0 m (pc + 3) ls (.int r :: rest))) : W p l e R s m args below meth c H locs 0 0 Q (F0 m pc ls st0) := by
  obtain ⟨hx, hb, hml, hown, hts, hr, hlk, hK, hN, hA, hX⟩ := C
  have hcell : H.size = s.heap.size + (H.size - s.heap.size) := by have := hS.1; omega
  refine va_calli (va_runV (As := As) (rest := rest) ⟨hx, hb, hml, hown, hts⟩ (hM H.size) (cwV As.length hts hG rfl hrm.1 hrm.2 hd hR) ⟨pp_blind, hc, fun U hU hW => ⟨rfl, by rw [hU], by rw [hU]; exact hP, va_K.moved hW.alike hK, hD.weaken (fun _ _ _ _ => trivial), va_Nw.warmM hW hN, XP.pass hX hS hD hA hU hW⟩⟩ rfl rfl hls hst (lv_room hw) hdg ⟨by omega, by omega⟩) hS (fun q _ h => pA_sub hD hA hS.1 q h) (fun q h => pA_sub hD hA hS.1 q h) (fun r1 u t H1 locs1 ht hvm hw1 hB hz1 hk1 hS1 => ?_)
  obtain ⟨hP1, hK1, hD1⟩ := hB
  rw [ht] at hP1
  subst hw1
  exact kk H1 locs1 hP1 (pool_D hD) hS1
theorem call_sS (C : CX p s m args meth c cc nL retc own D cy ad zz b n A) (hP : va_P D vwCl (pool cy ad b n M) H) (hD : va_D A (pool cy ad b n M)) (hS : va_S A s.heap H locs) {index maxL : Nat} {y : MethodName} {bytes : ByteArray} {ret : Option FieldType} {rm : Room} {As st0 : List Value} {r : Nat} {M' : Mem}
    (hM : CTs l D cy ad zz b n y (.code y bytes maxL ret :: tb) rm As M r M')
    (hG : GoodIn tb (va_wsS own index y (.code y bytes maxL ret :: tb)))
    (hd : y.cls ≠ "java/lang/invoke/MethodHandle" ∧ y.cls ≠ "java/lang/invoke/VarHandle" ∧ (parseMethodDescriptor y.desc).map (fun d => d.parameters.length) = some As.length)
    (hrm : rm.cells = 0 ∧ rm.slots = 0) (hR : rm.frames + 1 ≤ R.frames ∧ 8 + (maxL + 11) + rm.locals ≤ R.locals) (hls : ls.size = nL) (hst : st0 = As.reverse ++ rest) (hw : (rest.map fun v => v.category).sum ≤ 8) (hdg : decode cc pc = .ok (.invokestatic index, 3))
    (kk : ∀ (H : Heap) (locs : List Loc), va_P D vwCl (pool cy ad b n M') H → va_D A (pool cy ad b n M') → va_S A s.heap H locs → W p l e R s m args below meth c H locs 0 0 Q (F0 m (pc + 3) ls (.ref (zz.1 r) :: rest))) : W p l e R s m args below meth c H locs 0 0 Q (F0 m pc ls st0) := by
  obtain ⟨hx, hb, hml, hown, hts, hr, hlk, hK, hN, hA, hX⟩ := C
  have hcell : H.size = s.heap.size + (H.size - s.heap.size) := by have := hS.1; omega
  refine va_callq (va_runS (As := As) (rest := rest) ⟨hx, hb, hml, hown, hts⟩ (hM H.size) (va_cwS As.length hts hG rfl hrm.1 hrm.2 hd hR) ⟨pp_blind, fun U hU hW => ⟨rfl, by rw [hU], by rw [hU]; exact hP, va_K.moved hW.alike hK, hD.weaken (fun _ _ _ _ => trivial), va_Nw.warmM hW hN, XP.pass hX hS hD hA hU hW⟩⟩ rfl rfl hls hst (lv_room hw) hdg ⟨by omega, by omega⟩) hS (fun q _ h => pA_sub hD hA hS.1 q h) (fun q h => pA_sub hD hA hS.1 q h) (fun r1 u t H1 locs1 ht hvm hw1 hB hz1 hk1 hS1 => ?_)
  obtain ⟨hP1, hK1, hD1⟩ := hB
  rw [ht] at hP1
  subst hw1
  exact kk H1 locs1 hP1 (pool_D hD) hS1
theorem call_rV (C : CX p s m args meth c cc nL retc own D cy ad zz b n A) (hP : va_P D vwCl (pool cy ad b n M) H) (hD : va_D A (pool cy ad b n M)) (hS : va_S A s.heap H locs) {index j maxL : Nat} {y : MethodName} {bytes : ByteArray} {ret : Option FieldType} {rm : Room} {As st0 : List Value} {r : Nat} {M' : Mem} {C0 : String}
    (hM : CTq l D cy ad zz b n y (.code y bytes maxL ret :: tb) rm (.ref (ad j) :: As) M (some r) M')
    (hj : inP b n j) (hc : ∃ (ci : Nat) (fs : List Value) (q : vw_C), ent cy ad M j = .inr (ci, fs) ∧ vwCl[ci]? = some q ∧ q.1 = C0) (hG : GoodIn tb (wsV own index C0 y (.code y bytes maxL ret :: tb)))
    (hd : y.cls = C0 ∧ y.cls ≠ "java/lang/invoke/MethodHandle" ∧ y.cls ≠ "java/lang/invoke/VarHandle" ∧ (parseMethodDescriptor y.desc).map (fun d => d.parameters.length) = some As.length)
    (hrm : rm.cells = 0 ∧ rm.slots = 0) (hR : rm.frames + 1 ≤ R.frames ∧ 8 + (maxL + 11) + rm.locals ≤ R.locals) (hls : ls.size = nL) (hst : st0 = As.reverse ++ .ref (ad j) :: rest) (hw : (rest.map fun v => v.category).sum ≤ 8) (hdg : decode cc pc = .ok (.invokevirtual index, 3))
    (kk : ∀ (H : Heap) (locs : List Loc), va_P D vwCl (pool cy ad b n M') H → va_D A (pool cy ad b n M') → va_S A s.heap H locs → W p l e R s m args below meth c H locs 0 0 Q (F0 m (pc + 3) ls (.ref (ad r) :: rest))) : W p l e R s m args below meth c H locs 0 0 Q (F0 m pc ls st0) :=
  call_qV C hP hD hS hM hj hc hG hd hrm hR hls hst hw hdg kk
theorem call_rS (C : CX p s m args meth c cc nL retc own D cy ad zz b n A) (hP : va_P D vwCl (pool cy ad b n M) H) (hD : va_D A (pool cy ad b n M)) (hS : va_S A s.heap H locs) {index maxL : Nat} {y : MethodName} {bytes : ByteArray} {ret : Option FieldType} {rm : Room} {As st0 : List Value} {r : Nat} {M' : Mem}
    (hM : CTq l D cy ad zz b n y (.code y bytes maxL ret :: tb) rm As M (some r) M')
    (hG : GoodIn tb (va_wsS own index y (.code y bytes maxL ret :: tb)))
    (hd : y.cls ≠ "java/lang/invoke/MethodHandle" ∧ y.cls ≠ "java/lang/invoke/VarHandle" ∧ (parseMethodDescriptor y.desc).map (fun d => d.parameters.length) = some As.length)
    (hrm : rm.cells = 0 ∧ rm.slots = 0) (hR : rm.frames + 1 ≤ R.frames ∧ 8 + (maxL + 11) + rm.locals ≤ R.locals) (hls : ls.size = nL) (hst : st0 = As.reverse ++ rest) (hw : (rest.map fun v => v.category).sum ≤ 8) (hdg : decode cc pc = .ok (.invokestatic index, 3))
    (kk : ∀ (H : Heap) (locs : List Loc), va_P D vwCl (pool cy ad b n M') H → va_D A (pool cy ad b n M') → va_S A s.heap H locs → W p l e R s m args below meth c H locs 0 0 Q (F0 m (pc + 3) ls (.ref (ad r) :: rest))) : W p l e R s m args below meth c H locs 0 0 Q (F0 m pc ls st0) :=
  call_qS C hP hD hS hM hG hd hrm hR hls hst hw hdg kk
theorem va_re_cat {ad : Nat → Nat} {o : Option Nat} : (va_re ad o).category = 1 := by cases o <;> rfl
theorem nq_astore_n {k : Fin 4} {i nL : Nat} {o : Option Nat} {lv lv' : List (Nat × Value)} (hx : p.tables.exec = Jvm.exec) (hb : c.code = cc) (hdg : decode cc pc = .ok (.astore_n k, 1)) (hi : (k : Nat) = i) (h : lv_has ls nL lv) (hn : i < nL) (hl : (i, va_re ad o) :: lv.filter (fun q => !(q.1 == i) && !(q.1 + 1 == i && q.2.category == 2)) = lv')
    (kk : ∀ ls' : Array Slot, lv_has ls' nL lv' → W p l e R s m args below meth c H locs 0 0 Q (F0 m (pc + 1) ls' rest)) : W p l e R s m args below meth c H locs 0 0 Q (F0 m pc ls (va_re ad o :: rest)) := by
  cases o with
  | none => exact lv_astore_nN hx hb hdg hi h hn hl kk
  | some j => exact lv_astore_n hx hb hdg hi h hn hl kk
theorem nq_aload_n {k : Fin 4} {i : Nat} {o : Option Nat} (hx : p.tables.exec = Jvm.exec) (hb : c.code = cc) (hdg : decode cc pc = .ok (.aload_n k, 1)) (hi : (k : Nat) = i) (hl : ls[i]? = some (.val (va_re ad o)))
    (kk : W p l e R s m args below meth c H locs 0 0 Q (F0 m (pc + 1) ls (va_re ad o :: rest))) : W p l e R s m args below meth c H locs 0 0 Q (F0 m pc ls rest) := by
  cases o with
  | none => exact lv_aload_nN hx hb hdg hi hl kk
  | some j => exact lv_aload_n hx hb hdg hi hl kk

theorem nq_astore {i nL : Nat} {o : Option Nat} {lv lv' : List (Nat × Value)} (hx : p.tables.exec = Jvm.exec) (hb : c.code = cc) (hdg : decode cc pc = .ok (.astore i, 2)) (h : lv_has ls nL lv) (hn : i < nL) (hl : (i, va_re ad o) :: lv.filter (fun q => !(q.1 == i) && !(q.1 + 1 == i && q.2.category == 2)) = lv')
    (kk : ∀ ls' : Array Slot, lv_has ls' nL lv' → W p l e R s m args below meth c H locs 0 0 Q (F0 m (pc + 2) ls' rest)) : W p l e R s m args below meth c H locs 0 0 Q (F0 m pc ls (va_re ad o :: rest)) := by
  cases o with
  | none => exact lv_astoreN hx hb hdg h hn hl kk
  | some j => exact lv_astore hx hb hdg h hn hl kk
theorem nq_aload {i : Nat} {o : Option Nat} (hx : p.tables.exec = Jvm.exec) (hb : c.code = cc) (hdg : decode cc pc = .ok (.aload i, 2)) (hl : ls[i]? = some (.val (va_re ad o)))
    (kk : W p l e R s m args below meth c H locs 0 0 Q (F0 m (pc + 2) ls (va_re ad o :: rest))) : W p l e R s m args below meth c H locs 0 0 Q (F0 m pc ls rest) := by
  cases o with
  | none => exact lv_aloadN hx hb hdg hl kk
  | some j => exact lv_aload hx hb hdg hl kk
theorem P_get (C : CX p s m args meth c cc nL retc own D cy ad zz b n A) (hP : va_P D vwCl (pool cy ad b n M) H) {ci k N index j : Nat} {fs : List Value} {v : Value} {Cn ref : String} {T : u_T} (hj : inP b n j) (he : ent cy ad M j = .inr (ci, fs)) (hc : vwCl[ci]? = some (Cn, T, N)) (hin : ∀ w ∈ u_ws Cn T N, w ∈ tb) (hk : k < N) (hlink : Cond.fieldLink own index ref (T k).2.1 (T k).2.2.1 ∈ tb) (href : (T k).1 = ref) (hv : fs[k]? = some v) (hdg : decode cc pc = .ok (.getfield index, 3))
    (kk : W p l e R s m args below meth c H locs 0 0 Q (F0 m (pc + 3) ls (v :: rest))) : W p l e R s m args below meth c H locs 0 0 Q (F0 m pc ls (.ref (ad j) :: rest)) := by
  obtain ⟨hx, hb, hml, hown, hts, hr, hlk, hK, hN, hA, hX⟩ := C
  exact va_get hx hb hts hin hown hK hP (j - b) (by rw [← he]; exact pool_at hj) hc k hk (hts _ hlink) (by rw [href]; exact fun _ h => h) hv hdg kk
theorem P_put (C : CX p s m args meth c cc nL retc own D cy ad zz b n A) (hP : va_P D vwCl (pool cy ad b n M) H) (hD : va_D A (pool cy ad b n M)) (hS : va_S A s.heap H locs) {ci k N index j : Nat} {fs : List Value} {v : Value} {Cn ref : String} {T : u_T} {ty : Nat → FieldType} {M' : Mem} (hj : inP b n j) (he : ent cy ad M j = .inr (ci, fs)) (hc : vwCl[ci]? = some (Cn, T, N)) (hin : ∀ w ∈ u_ws Cn T N, w ∈ tb) (hty : ∀ k, k < N → parseFieldDescriptor (T k).2.2.1 = some (ty k)) (hnm : ∀ a, a < N → ∀ b, b < N → a ≠ b → (T a).2.1 ≠ (T b).2.1) (hk : k < N) (hlink : Cond.fieldLink own index ref (T k).2.1 (T k).2.2.1 ∈ tb) (href : (T k).1 = ref) (hfin : (T k).2.2.2 = false) (hn : narrow (ty k) v = v) (hfit : fits (ty k) v = true) (hl : k < fs.length) (hset : ent cy ad M' j = .inr (ci, fs.set k v)) (ho : ∀ i, i ≠ j → ent cy ad M' i = ent cy ad M i) (hdg : decode cc pc = .ok (.putfield index, 3))
    (kk : ∀ (H : Heap) (locs : List Loc), va_P D vwCl (pool cy ad b n M') H → va_D A (pool cy ad b n M') → va_S A s.heap H locs → W p l e R s m args below meth c H locs 0 0 Q (F0 m (pc + 3) ls rest)) : W p l e R s m args below meth c H locs 0 0 Q (F0 m pc ls (v :: .ref (ad j) :: rest)) := by
  obtain ⟨hx, hb, hml, hown, hts, hr, hlk, hK, hN, hA, hX⟩ := C
  refine va_put hx hb hts hin ty hty hnm hown hK hP hD hS (j - b) (by rw [← he]; exact pool_at hj) hc k hk (hts _ hlink) (by rw [href]; exact fun _ h => h) hfin (hty k hk) hn hfit hl hdg (fun H1 locs1 hP1 hD1 hS1 => ?_)
  rw [pool_set hj hset ho] at hP1
  exact kk H1 locs1 hP1 (pool_D hD) hS1
theorem gf_0_0 (C : CX p s m args meth c cc nL retc own D cy ad zz b n A) (hP : va_P D vwCl (pool cy ad b n M) H) {index j : Nat} (hj : inP b n j) (hk : kd j = 0) (hlink : Cond.fieldLink own index "BedsocksKeepRoads$Reader" "bytes" "[I" ∈ tb) (hdg : decode cc pc = .ok (.getfield index, 3))
    (kk : W p l e R s m args below meth c H locs 0 0 Q (F0 m (pc + 3) ls (.ref (ad 71) :: rest))) : W p l e R s m args below meth c H locs 0 0 Q (F0 m pc ls (.ref (ad j) :: rest)) :=
  P_get (ci := 0) (k := 0) (N := 7) (T := TX0) C hP hj (ent_0 hk) rfl inT0 (by decide) hlink rfl rfl hdg kk
theorem gf_0_1 (C : CX p s m args meth c cc nL retc own D cy ad zz b n A) (hP : va_P D vwCl (pool cy ad b n M) H) {index j : Nat} (hj : inP b n j) (hk : kd j = 0) (hlink : Cond.fieldLink own index "BedsocksKeepRoads$Reader" "size" "I" ∈ tb) (hdg : decode cc pc = .ok (.getfield index, 3))
    (kk : W p l e R s m args below meth c H locs 0 0 Q (F0 m (pc + 3) ls (.int (FI M j 1) :: rest))) : W p l e R s m args below meth c H locs 0 0 Q (F0 m pc ls (.ref (ad j) :: rest)) :=
  P_get (ci := 0) (k := 1) (N := 7) (T := TX0) C hP hj (ent_0 hk) rfl inT0 (by decide) hlink rfl rfl hdg kk
theorem pf_0_1 (C : CX p s m args meth c cc nL retc own D cy ad zz b n A) (hP : va_P D vwCl (pool cy ad b n M) H) (hD : va_D A (pool cy ad b n M)) (hS : va_S A s.heap H locs) {index j : Nat} {x : Int32} (hj : inP b n j) (hk : kd j = 0) (hlink : Cond.fieldLink own index "BedsocksKeepRoads$Reader" "size" "I" ∈ tb) (hdg : decode cc pc = .ok (.putfield index, 3))
    (kk : ∀ (H : Heap) (locs : List Loc), va_P D vwCl (pool cy ad b n (sFI M j 1 x)) H → va_D A (pool cy ad b n (sFI M j 1 x)) → va_S A s.heap H locs → W p l e R s m args below meth c H locs 0 0 Q (F0 m (pc + 3) ls rest)) : W p l e R s m args below meth c H locs 0 0 Q (F0 m pc ls (.int x :: .ref (ad j) :: rest)) :=
  P_put (ci := 0) (k := 1) (N := 7) (T := TX0) (ty := tyX0) (M' := (sFI M j 1 x)) C hP hD hS hj (ent_0 hk) rfl inT0 tyX0_ok nmX0 (by decide) hlink rfl rfl rfl rfl (show 1 < 7 from by decide) (by rw [ent_0 hk]; simp [sFI, sFJ, FI, FJ, RF, up2, List.set]) eo_FI hdg kk
theorem gf_0_2 (C : CX p s m args meth c cc nL retc own D cy ad zz b n A) (hP : va_P D vwCl (pool cy ad b n M) H) {index j : Nat} (hj : inP b n j) (hk : kd j = 0) (hlink : Cond.fieldLink own index "BedsocksKeepRoads$Reader" "at" "I" ∈ tb) (hdg : decode cc pc = .ok (.getfield index, 3))
    (kk : W p l e R s m args below meth c H locs 0 0 Q (F0 m (pc + 3) ls (.int (FI M j 2) :: rest))) : W p l e R s m args below meth c H locs 0 0 Q (F0 m pc ls (.ref (ad j) :: rest)) :=
  P_get (ci := 0) (k := 2) (N := 7) (T := TX0) C hP hj (ent_0 hk) rfl inT0 (by decide) hlink rfl rfl hdg kk
theorem pf_0_2 (C : CX p s m args meth c cc nL retc own D cy ad zz b n A) (hP : va_P D vwCl (pool cy ad b n M) H) (hD : va_D A (pool cy ad b n M)) (hS : va_S A s.heap H locs) {index j : Nat} {x : Int32} (hj : inP b n j) (hk : kd j = 0) (hlink : Cond.fieldLink own index "BedsocksKeepRoads$Reader" "at" "I" ∈ tb) (hdg : decode cc pc = .ok (.putfield index, 3))
    (kk : ∀ (H : Heap) (locs : List Loc), va_P D vwCl (pool cy ad b n (sFI M j 2 x)) H → va_D A (pool cy ad b n (sFI M j 2 x)) → va_S A s.heap H locs → W p l e R s m args below meth c H locs 0 0 Q (F0 m (pc + 3) ls rest)) : W p l e R s m args below meth c H locs 0 0 Q (F0 m pc ls (.int x :: .ref (ad j) :: rest)) :=
  P_put (ci := 0) (k := 2) (N := 7) (T := TX0) (ty := tyX0) (M' := (sFI M j 2 x)) C hP hD hS hj (ent_0 hk) rfl inT0 tyX0_ok nmX0 (by decide) hlink rfl rfl rfl rfl (show 2 < 7 from by decide) (by rw [ent_0 hk]; simp [sFI, sFJ, FI, FJ, RF, up2, List.set]) eo_FI hdg kk
theorem gf_0_3 (C : CX p s m args meth c cc nL retc own D cy ad zz b n A) (hP : va_P D vwCl (pool cy ad b n M) H) {index j : Nat} (hj : inP b n j) (hk : kd j = 0) (hlink : Cond.fieldLink own index "BedsocksKeepRoads$Reader" "start" "I" ∈ tb) (hdg : decode cc pc = .ok (.getfield index, 3))
    (kk : W p l e R s m args below meth c H locs 0 0 Q (F0 m (pc + 3) ls (.int (FI M j 3) :: rest))) : W p l e R s m args below meth c H locs 0 0 Q (F0 m pc ls (.ref (ad j) :: rest)) :=
  P_get (ci := 0) (k := 3) (N := 7) (T := TX0) C hP hj (ent_0 hk) rfl inT0 (by decide) hlink rfl rfl hdg kk
theorem pf_0_3 (C : CX p s m args meth c cc nL retc own D cy ad zz b n A) (hP : va_P D vwCl (pool cy ad b n M) H) (hD : va_D A (pool cy ad b n M)) (hS : va_S A s.heap H locs) {index j : Nat} {x : Int32} (hj : inP b n j) (hk : kd j = 0) (hlink : Cond.fieldLink own index "BedsocksKeepRoads$Reader" "start" "I" ∈ tb) (hdg : decode cc pc = .ok (.putfield index, 3))
    (kk : ∀ (H : Heap) (locs : List Loc), va_P D vwCl (pool cy ad b n (sFI M j 3 x)) H → va_D A (pool cy ad b n (sFI M j 3 x)) → va_S A s.heap H locs → W p l e R s m args below meth c H locs 0 0 Q (F0 m (pc + 3) ls rest)) : W p l e R s m args below meth c H locs 0 0 Q (F0 m pc ls (.int x :: .ref (ad j) :: rest)) :=
  P_put (ci := 0) (k := 3) (N := 7) (T := TX0) (ty := tyX0) (M' := (sFI M j 3 x)) C hP hD hS hj (ent_0 hk) rfl inT0 tyX0_ok nmX0 (by decide) hlink rfl rfl rfl rfl (show 3 < 7 from by decide) (by rw [ent_0 hk]; simp [sFI, sFJ, FI, FJ, RF, up2, List.set]) eo_FI hdg kk
theorem gf_0_4 (C : CX p s m args meth c cc nL retc own D cy ad zz b n A) (hP : va_P D vwCl (pool cy ad b n M) H) {index j : Nat} (hj : inP b n j) (hk : kd j = 0) (hlink : Cond.fieldLink own index "BedsocksKeepRoads$Reader" "token" "I" ∈ tb) (hdg : decode cc pc = .ok (.getfield index, 3))
    (kk : W p l e R s m args below meth c H locs 0 0 Q (F0 m (pc + 3) ls (.int (FI M j 4) :: rest))) : W p l e R s m args below meth c H locs 0 0 Q (F0 m pc ls (.ref (ad j) :: rest)) :=
  P_get (ci := 0) (k := 4) (N := 7) (T := TX0) C hP hj (ent_0 hk) rfl inT0 (by decide) hlink rfl rfl hdg kk
theorem pf_0_4 (C : CX p s m args meth c cc nL retc own D cy ad zz b n A) (hP : va_P D vwCl (pool cy ad b n M) H) (hD : va_D A (pool cy ad b n M)) (hS : va_S A s.heap H locs) {index j : Nat} {x : Int32} (hj : inP b n j) (hk : kd j = 0) (hlink : Cond.fieldLink own index "BedsocksKeepRoads$Reader" "token" "I" ∈ tb) (hdg : decode cc pc = .ok (.putfield index, 3))
    (kk : ∀ (H : Heap) (locs : List Loc), va_P D vwCl (pool cy ad b n (sFI M j 4 x)) H → va_D A (pool cy ad b n (sFI M j 4 x)) → va_S A s.heap H locs → W p l e R s m args below meth c H locs 0 0 Q (F0 m (pc + 3) ls rest)) : W p l e R s m args below meth c H locs 0 0 Q (F0 m pc ls (.int x :: .ref (ad j) :: rest)) :=
  P_put (ci := 0) (k := 4) (N := 7) (T := TX0) (ty := tyX0) (M' := (sFI M j 4 x)) C hP hD hS hj (ent_0 hk) rfl inT0 tyX0_ok nmX0 (by decide) hlink rfl rfl rfl rfl (show 4 < 7 from by decide) (by rw [ent_0 hk]; simp [sFI, sFJ, FI, FJ, RF, up2, List.set]) eo_FI hdg kk
theorem gf_0_5 (C : CX p s m args meth c cc nL retc own D cy ad zz b n A) (hP : va_P D vwCl (pool cy ad b n M) H) {index j : Nat} (hj : inP b n j) (hk : kd j = 0) (hlink : Cond.fieldLink own index "BedsocksKeepRoads$Reader" "worth" "I" ∈ tb) (hdg : decode cc pc = .ok (.getfield index, 3))
    (kk : W p l e R s m args below meth c H locs 0 0 Q (F0 m (pc + 3) ls (.int (FI M j 5) :: rest))) : W p l e R s m args below meth c H locs 0 0 Q (F0 m pc ls (.ref (ad j) :: rest)) :=
  P_get (ci := 0) (k := 5) (N := 7) (T := TX0) C hP hj (ent_0 hk) rfl inT0 (by decide) hlink rfl rfl hdg kk
theorem pf_0_5 (C : CX p s m args meth c cc nL retc own D cy ad zz b n A) (hP : va_P D vwCl (pool cy ad b n M) H) (hD : va_D A (pool cy ad b n M)) (hS : va_S A s.heap H locs) {index j : Nat} {x : Int32} (hj : inP b n j) (hk : kd j = 0) (hlink : Cond.fieldLink own index "BedsocksKeepRoads$Reader" "worth" "I" ∈ tb) (hdg : decode cc pc = .ok (.putfield index, 3))
    (kk : ∀ (H : Heap) (locs : List Loc), va_P D vwCl (pool cy ad b n (sFI M j 5 x)) H → va_D A (pool cy ad b n (sFI M j 5 x)) → va_S A s.heap H locs → W p l e R s m args below meth c H locs 0 0 Q (F0 m (pc + 3) ls rest)) : W p l e R s m args below meth c H locs 0 0 Q (F0 m pc ls (.int x :: .ref (ad j) :: rest)) :=
  P_put (ci := 0) (k := 5) (N := 7) (T := TX0) (ty := tyX0) (M' := (sFI M j 5 x)) C hP hD hS hj (ent_0 hk) rfl inT0 tyX0_ok nmX0 (by decide) hlink rfl rfl rfl rfl (show 5 < 7 from by decide) (by rw [ent_0 hk]; simp [sFI, sFJ, FI, FJ, RF, up2, List.set]) eo_FI hdg kk
theorem gf_0_6 (C : CX p s m args meth c cc nL retc own D cy ad zz b n A) (hP : va_P D vwCl (pool cy ad b n M) H) {index j : Nat} (hj : inP b n j) (hk : kd j = 0) (hlink : Cond.fieldLink own index "BedsocksKeepRoads$Reader" "into" "LBedsocksKeepRoads$Text;" ∈ tb) (hdg : decode cc pc = .ok (.getfield index, 3))
    (kk : W p l e R s m args below meth c H locs 0 0 Q (F0 m (pc + 3) ls (.ref (ad (RF M)) :: rest))) : W p l e R s m args below meth c H locs 0 0 Q (F0 m pc ls (.ref (ad j) :: rest)) :=
  P_get (ci := 0) (k := 6) (N := 7) (T := TX0) C hP hj (ent_0 hk) rfl inT0 (by decide) hlink rfl rfl hdg kk
theorem pf_0_6 (C : CX p s m args meth c cc nL retc own D cy ad zz b n A) (hP : va_P D vwCl (pool cy ad b n M) H) (hD : va_D A (pool cy ad b n M)) (hS : va_S A s.heap H locs) {index : Nat} {x : Nat} (hj : inP b n 72) (hlink : Cond.fieldLink own index "BedsocksKeepRoads$Reader" "into" "LBedsocksKeepRoads$Text;" ∈ tb) (hdg : decode cc pc = .ok (.putfield index, 3))
    (kk : ∀ (H : Heap) (locs : List Loc), va_P D vwCl (pool cy ad b n (sRF M x)) H → va_D A (pool cy ad b n (sRF M x)) → va_S A s.heap H locs → W p l e R s m args below meth c H locs 0 0 Q (F0 m (pc + 3) ls rest)) : W p l e R s m args below meth c H locs 0 0 Q (F0 m pc ls (.ref (ad x) :: .ref (ad 72) :: rest)) :=
  P_put (ci := 0) (k := 6) (N := 7) (T := TX0) (ty := tyX0) (M' := (sRF M x)) C hP hD hS hj (ent_0 (by decide)) rfl inT0 tyX0_ok nmX0 (by decide) hlink rfl rfl rfl rfl (show 6 < 7 from by decide) (by rw [ent_0 (by decide)]; rfl) eo_RF hdg kk
theorem gf_1_0 (C : CX p s m args meth c cc nL retc own D cy ad zz b n A) (hP : va_P D vwCl (pool cy ad b n M) H) {index j : Nat} (hj : inP b n j) (hk : kd j = 1) (hlink : Cond.fieldLink own index "BedsocksKeepRoads$Sheet" "sort" "I" ∈ tb) (hdg : decode cc pc = .ok (.getfield index, 3))
    (kk : W p l e R s m args below meth c H locs 0 0 Q (F0 m (pc + 3) ls (.int (FI M j 0) :: rest))) : W p l e R s m args below meth c H locs 0 0 Q (F0 m pc ls (.ref (ad j) :: rest)) :=
  P_get (ci := 1) (k := 0) (N := 3) (T := TX1) C hP hj (ent_1 hk) rfl inT1 (by decide) hlink rfl rfl hdg kk
theorem pf_1_0 (C : CX p s m args meth c cc nL retc own D cy ad zz b n A) (hP : va_P D vwCl (pool cy ad b n M) H) (hD : va_D A (pool cy ad b n M)) (hS : va_S A s.heap H locs) {index j : Nat} {x : Int32} (hj : inP b n j) (hk : kd j = 1) (hlink : Cond.fieldLink own index "BedsocksKeepRoads$Sheet" "sort" "I" ∈ tb) (hdg : decode cc pc = .ok (.putfield index, 3))
    (kk : ∀ (H : Heap) (locs : List Loc), va_P D vwCl (pool cy ad b n (sFI M j 0 x)) H → va_D A (pool cy ad b n (sFI M j 0 x)) → va_S A s.heap H locs → W p l e R s m args below meth c H locs 0 0 Q (F0 m (pc + 3) ls rest)) : W p l e R s m args below meth c H locs 0 0 Q (F0 m pc ls (.int x :: .ref (ad j) :: rest)) :=
  P_put (ci := 1) (k := 0) (N := 3) (T := TX1) (ty := tyX1) (M' := (sFI M j 0 x)) C hP hD hS hj (ent_1 hk) rfl inT1 tyX1_ok nmX1 (by decide) hlink rfl rfl rfl rfl (show 0 < 3 from by decide) (by rw [ent_1 hk]; simp [sFI, sFJ, FI, FJ, RF, up2, List.set]) eo_FI hdg kk
theorem gf_1_1 (C : CX p s m args meth c cc nL retc own D cy ad zz b n A) (hP : va_P D vwCl (pool cy ad b n M) H) {index j : Nat} (hj : inP b n j) (hk : kd j = 1) (hlink : Cond.fieldLink own index "BedsocksKeepRoads$Sheet" "size" "I" ∈ tb) (hdg : decode cc pc = .ok (.getfield index, 3))
    (kk : W p l e R s m args below meth c H locs 0 0 Q (F0 m (pc + 3) ls (.int (FI M j 1) :: rest))) : W p l e R s m args below meth c H locs 0 0 Q (F0 m pc ls (.ref (ad j) :: rest)) :=
  P_get (ci := 1) (k := 1) (N := 3) (T := TX1) C hP hj (ent_1 hk) rfl inT1 (by decide) hlink rfl rfl hdg kk
theorem pf_1_1 (C : CX p s m args meth c cc nL retc own D cy ad zz b n A) (hP : va_P D vwCl (pool cy ad b n M) H) (hD : va_D A (pool cy ad b n M)) (hS : va_S A s.heap H locs) {index j : Nat} {x : Int32} (hj : inP b n j) (hk : kd j = 1) (hlink : Cond.fieldLink own index "BedsocksKeepRoads$Sheet" "size" "I" ∈ tb) (hdg : decode cc pc = .ok (.putfield index, 3))
    (kk : ∀ (H : Heap) (locs : List Loc), va_P D vwCl (pool cy ad b n (sFI M j 1 x)) H → va_D A (pool cy ad b n (sFI M j 1 x)) → va_S A s.heap H locs → W p l e R s m args below meth c H locs 0 0 Q (F0 m (pc + 3) ls rest)) : W p l e R s m args below meth c H locs 0 0 Q (F0 m pc ls (.int x :: .ref (ad j) :: rest)) :=
  P_put (ci := 1) (k := 1) (N := 3) (T := TX1) (ty := tyX1) (M' := (sFI M j 1 x)) C hP hD hS hj (ent_1 hk) rfl inT1 tyX1_ok nmX1 (by decide) hlink rfl rfl rfl rfl (show 1 < 3 from by decide) (by rw [ent_1 hk]; simp [sFI, sFJ, FI, FJ, RF, up2, List.set]) eo_FI hdg kk
theorem gf_1_2 (C : CX p s m args meth c cc nL retc own D cy ad zz b n A) (hP : va_P D vwCl (pool cy ad b n M) H) {index j : Nat} (hj : inP b n j) (hk : kd j = 1) (hlink : Cond.fieldLink own index "BedsocksKeepRoads$Sheet" "numbers" "[I" ∈ tb) (hdg : decode cc pc = .ok (.getfield index, 3))
    (kk : W p l e R s m args below meth c H locs 0 0 Q (F0 m (pc + 3) ls (.ref (ad (j + 4)) :: rest))) : W p l e R s m args below meth c H locs 0 0 Q (F0 m pc ls (.ref (ad j) :: rest)) :=
  P_get (ci := 1) (k := 2) (N := 3) (T := TX1) C hP hj (ent_1 hk) rfl inT1 (by decide) hlink rfl rfl hdg kk
theorem gf_2_0 (C : CX p s m args meth c cc nL retc own D cy ad zz b n A) (hP : va_P D vwCl (pool cy ad b n M) H) {index j : Nat} (hj : inP b n j) (hk : kd j = 2) (hlink : Cond.fieldLink own index "BedsocksKeepRoads$Sleeper" "kind" "I" ∈ tb) (hdg : decode cc pc = .ok (.getfield index, 3))
    (kk : W p l e R s m args below meth c H locs 0 0 Q (F0 m (pc + 3) ls (.int (FI M j 0) :: rest))) : W p l e R s m args below meth c H locs 0 0 Q (F0 m pc ls (.ref (ad j) :: rest)) :=
  P_get (ci := 2) (k := 0) (N := 10) (T := TX2) C hP hj (ent_2 hk) rfl inT2 (by decide) hlink rfl rfl hdg kk
theorem pf_2_0 (C : CX p s m args meth c cc nL retc own D cy ad zz b n A) (hP : va_P D vwCl (pool cy ad b n M) H) (hD : va_D A (pool cy ad b n M)) (hS : va_S A s.heap H locs) {index j : Nat} {x : Int32} (hj : inP b n j) (hk : kd j = 2) (hlink : Cond.fieldLink own index "BedsocksKeepRoads$Sleeper" "kind" "I" ∈ tb) (hdg : decode cc pc = .ok (.putfield index, 3))
    (kk : ∀ (H : Heap) (locs : List Loc), va_P D vwCl (pool cy ad b n (sFI M j 0 x)) H → va_D A (pool cy ad b n (sFI M j 0 x)) → va_S A s.heap H locs → W p l e R s m args below meth c H locs 0 0 Q (F0 m (pc + 3) ls rest)) : W p l e R s m args below meth c H locs 0 0 Q (F0 m pc ls (.int x :: .ref (ad j) :: rest)) :=
  P_put (ci := 2) (k := 0) (N := 10) (T := TX2) (ty := tyX2) (M' := (sFI M j 0 x)) C hP hD hS hj (ent_2 hk) rfl inT2 tyX2_ok nmX2 (by decide) hlink rfl rfl rfl rfl (show 0 < 10 from by decide) (by rw [ent_2 hk]; simp [sFI, sFJ, FI, FJ, RF, up2, List.set]) eo_FI hdg kk
theorem gf_2_1 (C : CX p s m args meth c cc nL retc own D cy ad zz b n A) (hP : va_P D vwCl (pool cy ad b n M) H) {index j : Nat} (hj : inP b n j) (hk : kd j = 2) (hlink : Cond.fieldLink own index "BedsocksKeepRoads$Sleeper" "more" "I" ∈ tb) (hdg : decode cc pc = .ok (.getfield index, 3))
    (kk : W p l e R s m args below meth c H locs 0 0 Q (F0 m (pc + 3) ls (.int (FI M j 1) :: rest))) : W p l e R s m args below meth c H locs 0 0 Q (F0 m pc ls (.ref (ad j) :: rest)) :=
  P_get (ci := 2) (k := 1) (N := 10) (T := TX2) C hP hj (ent_2 hk) rfl inT2 (by decide) hlink rfl rfl hdg kk
theorem pf_2_1 (C : CX p s m args meth c cc nL retc own D cy ad zz b n A) (hP : va_P D vwCl (pool cy ad b n M) H) (hD : va_D A (pool cy ad b n M)) (hS : va_S A s.heap H locs) {index j : Nat} {x : Int32} (hj : inP b n j) (hk : kd j = 2) (hlink : Cond.fieldLink own index "BedsocksKeepRoads$Sleeper" "more" "I" ∈ tb) (hdg : decode cc pc = .ok (.putfield index, 3))
    (kk : ∀ (H : Heap) (locs : List Loc), va_P D vwCl (pool cy ad b n (sFI M j 1 x)) H → va_D A (pool cy ad b n (sFI M j 1 x)) → va_S A s.heap H locs → W p l e R s m args below meth c H locs 0 0 Q (F0 m (pc + 3) ls rest)) : W p l e R s m args below meth c H locs 0 0 Q (F0 m pc ls (.int x :: .ref (ad j) :: rest)) :=
  P_put (ci := 2) (k := 1) (N := 10) (T := TX2) (ty := tyX2) (M' := (sFI M j 1 x)) C hP hD hS hj (ent_2 hk) rfl inT2 tyX2_ok nmX2 (by decide) hlink rfl rfl rfl rfl (show 1 < 10 from by decide) (by rw [ent_2 hk]; simp [sFI, sFJ, FI, FJ, RF, up2, List.set]) eo_FI hdg kk
theorem gf_2_2 (C : CX p s m args meth c cc nL retc own D cy ad zz b n A) (hP : va_P D vwCl (pool cy ad b n M) H) {index j : Nat} (hj : inP b n j) (hk : kd j = 2) (hlink : Cond.fieldLink own index "BedsocksKeepRoads$Sleeper" "cell" "I" ∈ tb) (hdg : decode cc pc = .ok (.getfield index, 3))
    (kk : W p l e R s m args below meth c H locs 0 0 Q (F0 m (pc + 3) ls (.int (FI M j 2) :: rest))) : W p l e R s m args below meth c H locs 0 0 Q (F0 m pc ls (.ref (ad j) :: rest)) :=
  P_get (ci := 2) (k := 2) (N := 10) (T := TX2) C hP hj (ent_2 hk) rfl inT2 (by decide) hlink rfl rfl hdg kk
theorem pf_2_2 (C : CX p s m args meth c cc nL retc own D cy ad zz b n A) (hP : va_P D vwCl (pool cy ad b n M) H) (hD : va_D A (pool cy ad b n M)) (hS : va_S A s.heap H locs) {index j : Nat} {x : Int32} (hj : inP b n j) (hk : kd j = 2) (hlink : Cond.fieldLink own index "BedsocksKeepRoads$Sleeper" "cell" "I" ∈ tb) (hdg : decode cc pc = .ok (.putfield index, 3))
    (kk : ∀ (H : Heap) (locs : List Loc), va_P D vwCl (pool cy ad b n (sFI M j 2 x)) H → va_D A (pool cy ad b n (sFI M j 2 x)) → va_S A s.heap H locs → W p l e R s m args below meth c H locs 0 0 Q (F0 m (pc + 3) ls rest)) : W p l e R s m args below meth c H locs 0 0 Q (F0 m pc ls (.int x :: .ref (ad j) :: rest)) :=
  P_put (ci := 2) (k := 2) (N := 10) (T := TX2) (ty := tyX2) (M' := (sFI M j 2 x)) C hP hD hS hj (ent_2 hk) rfl inT2 tyX2_ok nmX2 (by decide) hlink rfl rfl rfl rfl (show 2 < 10 from by decide) (by rw [ent_2 hk]; simp [sFI, sFJ, FI, FJ, RF, up2, List.set]) eo_FI hdg kk
theorem gf_2_3 (C : CX p s m args meth c cc nL retc own D cy ad zz b n A) (hP : va_P D vwCl (pool cy ad b n M) H) {index j : Nat} (hj : inP b n j) (hk : kd j = 2) (hlink : Cond.fieldLink own index "BedsocksKeepRoads$Sleeper" "way" "I" ∈ tb) (hdg : decode cc pc = .ok (.getfield index, 3))
    (kk : W p l e R s m args below meth c H locs 0 0 Q (F0 m (pc + 3) ls (.int (FI M j 3) :: rest))) : W p l e R s m args below meth c H locs 0 0 Q (F0 m pc ls (.ref (ad j) :: rest)) :=
  P_get (ci := 2) (k := 3) (N := 10) (T := TX2) C hP hj (ent_2 hk) rfl inT2 (by decide) hlink rfl rfl hdg kk
theorem pf_2_3 (C : CX p s m args meth c cc nL retc own D cy ad zz b n A) (hP : va_P D vwCl (pool cy ad b n M) H) (hD : va_D A (pool cy ad b n M)) (hS : va_S A s.heap H locs) {index j : Nat} {x : Int32} (hj : inP b n j) (hk : kd j = 2) (hlink : Cond.fieldLink own index "BedsocksKeepRoads$Sleeper" "way" "I" ∈ tb) (hdg : decode cc pc = .ok (.putfield index, 3))
    (kk : ∀ (H : Heap) (locs : List Loc), va_P D vwCl (pool cy ad b n (sFI M j 3 x)) H → va_D A (pool cy ad b n (sFI M j 3 x)) → va_S A s.heap H locs → W p l e R s m args below meth c H locs 0 0 Q (F0 m (pc + 3) ls rest)) : W p l e R s m args below meth c H locs 0 0 Q (F0 m pc ls (.int x :: .ref (ad j) :: rest)) :=
  P_put (ci := 2) (k := 3) (N := 10) (T := TX2) (ty := tyX2) (M' := (sFI M j 3 x)) C hP hD hS hj (ent_2 hk) rfl inT2 tyX2_ok nmX2 (by decide) hlink rfl rfl rfl rfl (show 3 < 10 from by decide) (by rw [ent_2 hk]; simp [sFI, sFJ, FI, FJ, RF, up2, List.set]) eo_FI hdg kk
theorem gf_2_4 (C : CX p s m args meth c cc nL retc own D cy ad zz b n A) (hP : va_P D vwCl (pool cy ad b n M) H) {index j : Nat} (hj : inP b n j) (hk : kd j = 2) (hlink : Cond.fieldLink own index "BedsocksKeepRoads$Sleeper" "next" "I" ∈ tb) (hdg : decode cc pc = .ok (.getfield index, 3))
    (kk : W p l e R s m args below meth c H locs 0 0 Q (F0 m (pc + 3) ls (.int (FI M j 4) :: rest))) : W p l e R s m args below meth c H locs 0 0 Q (F0 m pc ls (.ref (ad j) :: rest)) :=
  P_get (ci := 2) (k := 4) (N := 10) (T := TX2) C hP hj (ent_2 hk) rfl inT2 (by decide) hlink rfl rfl hdg kk
theorem pf_2_4 (C : CX p s m args meth c cc nL retc own D cy ad zz b n A) (hP : va_P D vwCl (pool cy ad b n M) H) (hD : va_D A (pool cy ad b n M)) (hS : va_S A s.heap H locs) {index j : Nat} {x : Int32} (hj : inP b n j) (hk : kd j = 2) (hlink : Cond.fieldLink own index "BedsocksKeepRoads$Sleeper" "next" "I" ∈ tb) (hdg : decode cc pc = .ok (.putfield index, 3))
    (kk : ∀ (H : Heap) (locs : List Loc), va_P D vwCl (pool cy ad b n (sFI M j 4 x)) H → va_D A (pool cy ad b n (sFI M j 4 x)) → va_S A s.heap H locs → W p l e R s m args below meth c H locs 0 0 Q (F0 m (pc + 3) ls rest)) : W p l e R s m args below meth c H locs 0 0 Q (F0 m pc ls (.int x :: .ref (ad j) :: rest)) :=
  P_put (ci := 2) (k := 4) (N := 10) (T := TX2) (ty := tyX2) (M' := (sFI M j 4 x)) C hP hD hS hj (ent_2 hk) rfl inT2 tyX2_ok nmX2 (by decide) hlink rfl rfl rfl rfl (show 4 < 10 from by decide) (by rw [ent_2 hk]; simp [sFI, sFJ, FI, FJ, RF, up2, List.set]) eo_FI hdg kk
theorem gf_2_5 (C : CX p s m args meth c cc nL retc own D cy ad zz b n A) (hP : va_P D vwCl (pool cy ad b n M) H) {index j : Nat} (hj : inP b n j) (hk : kd j = 2) (hlink : Cond.fieldLink own index "BedsocksKeepRoads$Sleeper" "wet" "I" ∈ tb) (hdg : decode cc pc = .ok (.getfield index, 3))
    (kk : W p l e R s m args below meth c H locs 0 0 Q (F0 m (pc + 3) ls (.int (FI M j 5) :: rest))) : W p l e R s m args below meth c H locs 0 0 Q (F0 m pc ls (.ref (ad j) :: rest)) :=
  P_get (ci := 2) (k := 5) (N := 10) (T := TX2) C hP hj (ent_2 hk) rfl inT2 (by decide) hlink rfl rfl hdg kk
theorem pf_2_5 (C : CX p s m args meth c cc nL retc own D cy ad zz b n A) (hP : va_P D vwCl (pool cy ad b n M) H) (hD : va_D A (pool cy ad b n M)) (hS : va_S A s.heap H locs) {index j : Nat} {x : Int32} (hj : inP b n j) (hk : kd j = 2) (hlink : Cond.fieldLink own index "BedsocksKeepRoads$Sleeper" "wet" "I" ∈ tb) (hdg : decode cc pc = .ok (.putfield index, 3))
    (kk : ∀ (H : Heap) (locs : List Loc), va_P D vwCl (pool cy ad b n (sFI M j 5 x)) H → va_D A (pool cy ad b n (sFI M j 5 x)) → va_S A s.heap H locs → W p l e R s m args below meth c H locs 0 0 Q (F0 m (pc + 3) ls rest)) : W p l e R s m args below meth c H locs 0 0 Q (F0 m pc ls (.int x :: .ref (ad j) :: rest)) :=
  P_put (ci := 2) (k := 5) (N := 10) (T := TX2) (ty := tyX2) (M' := (sFI M j 5 x)) C hP hD hS hj (ent_2 hk) rfl inT2 tyX2_ok nmX2 (by decide) hlink rfl rfl rfl rfl (show 5 < 10 from by decide) (by rw [ent_2 hk]; simp [sFI, sFJ, FI, FJ, RF, up2, List.set]) eo_FI hdg kk
theorem gf_2_6 (C : CX p s m args meth c cc nL retc own D cy ad zz b n A) (hP : va_P D vwCl (pool cy ad b n M) H) {index j : Nat} (hj : inP b n j) (hk : kd j = 2) (hlink : Cond.fieldLink own index "BedsocksKeepRoads$Sleeper" "wool" "I" ∈ tb) (hdg : decode cc pc = .ok (.getfield index, 3))
    (kk : W p l e R s m args below meth c H locs 0 0 Q (F0 m (pc + 3) ls (.int (FI M j 6) :: rest))) : W p l e R s m args below meth c H locs 0 0 Q (F0 m pc ls (.ref (ad j) :: rest)) :=
  P_get (ci := 2) (k := 6) (N := 10) (T := TX2) C hP hj (ent_2 hk) rfl inT2 (by decide) hlink rfl rfl hdg kk
theorem pf_2_6 (C : CX p s m args meth c cc nL retc own D cy ad zz b n A) (hP : va_P D vwCl (pool cy ad b n M) H) (hD : va_D A (pool cy ad b n M)) (hS : va_S A s.heap H locs) {index j : Nat} {x : Int32} (hj : inP b n j) (hk : kd j = 2) (hlink : Cond.fieldLink own index "BedsocksKeepRoads$Sleeper" "wool" "I" ∈ tb) (hdg : decode cc pc = .ok (.putfield index, 3))
    (kk : ∀ (H : Heap) (locs : List Loc), va_P D vwCl (pool cy ad b n (sFI M j 6 x)) H → va_D A (pool cy ad b n (sFI M j 6 x)) → va_S A s.heap H locs → W p l e R s m args below meth c H locs 0 0 Q (F0 m (pc + 3) ls rest)) : W p l e R s m args below meth c H locs 0 0 Q (F0 m pc ls (.int x :: .ref (ad j) :: rest)) :=
  P_put (ci := 2) (k := 6) (N := 10) (T := TX2) (ty := tyX2) (M' := (sFI M j 6 x)) C hP hD hS hj (ent_2 hk) rfl inT2 tyX2_ok nmX2 (by decide) hlink rfl rfl rfl rfl (show 6 < 10 from by decide) (by rw [ent_2 hk]; simp [sFI, sFJ, FI, FJ, RF, up2, List.set]) eo_FI hdg kk
theorem gf_2_7 (C : CX p s m args meth c cc nL retc own D cy ad zz b n A) (hP : va_P D vwCl (pool cy ad b n M) H) {index j : Nat} (hj : inP b n j) (hk : kd j = 2) (hlink : Cond.fieldLink own index "BedsocksKeepRoads$Sleeper" "size" "I" ∈ tb) (hdg : decode cc pc = .ok (.getfield index, 3))
    (kk : W p l e R s m args below meth c H locs 0 0 Q (F0 m (pc + 3) ls (.int (FI M j 7) :: rest))) : W p l e R s m args below meth c H locs 0 0 Q (F0 m pc ls (.ref (ad j) :: rest)) :=
  P_get (ci := 2) (k := 7) (N := 10) (T := TX2) C hP hj (ent_2 hk) rfl inT2 (by decide) hlink rfl rfl hdg kk
theorem pf_2_7 (C : CX p s m args meth c cc nL retc own D cy ad zz b n A) (hP : va_P D vwCl (pool cy ad b n M) H) (hD : va_D A (pool cy ad b n M)) (hS : va_S A s.heap H locs) {index j : Nat} {x : Int32} (hj : inP b n j) (hk : kd j = 2) (hlink : Cond.fieldLink own index "BedsocksKeepRoads$Sleeper" "size" "I" ∈ tb) (hdg : decode cc pc = .ok (.putfield index, 3))
    (kk : ∀ (H : Heap) (locs : List Loc), va_P D vwCl (pool cy ad b n (sFI M j 7 x)) H → va_D A (pool cy ad b n (sFI M j 7 x)) → va_S A s.heap H locs → W p l e R s m args below meth c H locs 0 0 Q (F0 m (pc + 3) ls rest)) : W p l e R s m args below meth c H locs 0 0 Q (F0 m pc ls (.int x :: .ref (ad j) :: rest)) :=
  P_put (ci := 2) (k := 7) (N := 10) (T := TX2) (ty := tyX2) (M' := (sFI M j 7 x)) C hP hD hS hj (ent_2 hk) rfl inT2 tyX2_ok nmX2 (by decide) hlink rfl rfl rfl rfl (show 7 < 10 from by decide) (by rw [ent_2 hk]; simp [sFI, sFJ, FI, FJ, RF, up2, List.set]) eo_FI hdg kk
theorem gf_2_8 (C : CX p s m args meth c cc nL retc own D cy ad zz b n A) (hP : va_P D vwCl (pool cy ad b n M) H) {index j : Nat} (hj : inP b n j) (hk : kd j = 2) (hlink : Cond.fieldLink own index "BedsocksKeepRoads$Sleeper" "trail" "J" ∈ tb) (hdg : decode cc pc = .ok (.getfield index, 3))
    (kk : W p l e R s m args below meth c H locs 0 0 Q (F0 m (pc + 3) ls (.long (FJ M j 8) :: rest))) : W p l e R s m args below meth c H locs 0 0 Q (F0 m pc ls (.ref (ad j) :: rest)) :=
  P_get (ci := 2) (k := 8) (N := 10) (T := TX2) C hP hj (ent_2 hk) rfl inT2 (by decide) hlink rfl rfl hdg kk
theorem pf_2_8 (C : CX p s m args meth c cc nL retc own D cy ad zz b n A) (hP : va_P D vwCl (pool cy ad b n M) H) (hD : va_D A (pool cy ad b n M)) (hS : va_S A s.heap H locs) {index j : Nat} {x : Int64} (hj : inP b n j) (hk : kd j = 2) (hlink : Cond.fieldLink own index "BedsocksKeepRoads$Sleeper" "trail" "J" ∈ tb) (hdg : decode cc pc = .ok (.putfield index, 3))
    (kk : ∀ (H : Heap) (locs : List Loc), va_P D vwCl (pool cy ad b n (sFJ M j 8 x)) H → va_D A (pool cy ad b n (sFJ M j 8 x)) → va_S A s.heap H locs → W p l e R s m args below meth c H locs 0 0 Q (F0 m (pc + 3) ls rest)) : W p l e R s m args below meth c H locs 0 0 Q (F0 m pc ls (.long x :: .ref (ad j) :: rest)) :=
  P_put (ci := 2) (k := 8) (N := 10) (T := TX2) (ty := tyX2) (M' := (sFJ M j 8 x)) C hP hD hS hj (ent_2 hk) rfl inT2 tyX2_ok nmX2 (by decide) hlink rfl rfl rfl rfl (show 8 < 10 from by decide) (by rw [ent_2 hk]; simp [sFI, sFJ, FI, FJ, RF, up2, List.set]) eo_FJ hdg kk
theorem gf_2_9 (C : CX p s m args meth c cc nL retc own D cy ad zz b n A) (hP : va_P D vwCl (pool cy ad b n M) H) {index j : Nat} (hj : inP b n j) (hk : kd j = 2) (hlink : Cond.fieldLink own index "BedsocksKeepRoads$Sleeper" "sock" "[I" ∈ tb) (hdg : decode cc pc = .ok (.getfield index, 3))
    (kk : W p l e R s m args below meth c H locs 0 0 Q (F0 m (pc + 3) ls (.ref (ad (j + 19)) :: rest))) : W p l e R s m args below meth c H locs 0 0 Q (F0 m pc ls (.ref (ad j) :: rest)) :=
  P_get (ci := 2) (k := 9) (N := 10) (T := TX2) C hP hj (ent_2 hk) rfl inT2 (by decide) hlink rfl rfl hdg kk
theorem gf_3_0 (C : CX p s m args meth c cc nL retc own D cy ad zz b n A) (hP : va_P D vwCl (pool cy ad b n M) H) {index j : Nat} (hj : inP b n j) (hk : kd j = 3) (hlink : Cond.fieldLink own index "BedsocksKeepRoads$Text" "deeds" "[I" ∈ tb) (hdg : decode cc pc = .ok (.getfield index, 3))
    (kk : W p l e R s m args below meth c H locs 0 0 Q (F0 m (pc + 3) ls (.ref (ad (j + 6)) :: rest))) : W p l e R s m args below meth c H locs 0 0 Q (F0 m pc ls (.ref (ad j) :: rest)) :=
  P_get (ci := 3) (k := 0) (N := 5) (T := TX3) C hP hj (ent_3 hk) rfl inT3 (by decide) hlink rfl rfl hdg kk
theorem gf_3_1 (C : CX p s m args meth c cc nL retc own D cy ad zz b n A) (hP : va_P D vwCl (pool cy ad b n M) H) {index j : Nat} (hj : inP b n j) (hk : kd j = 3) (hlink : Cond.fieldLink own index "BedsocksKeepRoads$Text" "worths" "[I" ∈ tb) (hdg : decode cc pc = .ok (.getfield index, 3))
    (kk : W p l e R s m args below meth c H locs 0 0 Q (F0 m (pc + 3) ls (.ref (ad (j + 12)) :: rest))) : W p l e R s m args below meth c H locs 0 0 Q (F0 m pc ls (.ref (ad j) :: rest)) :=
  P_get (ci := 3) (k := 1) (N := 5) (T := TX3) C hP hj (ent_3 hk) rfl inT3 (by decide) hlink rfl rfl hdg kk
theorem gf_3_2 (C : CX p s m args meth c cc nL retc own D cy ad zz b n A) (hP : va_P D vwCl (pool cy ad b n M) H) {index j : Nat} (hj : inP b n j) (hk : kd j = 3) (hlink : Cond.fieldLink own index "BedsocksKeepRoads$Text" "ends" "[I" ∈ tb) (hdg : decode cc pc = .ok (.getfield index, 3))
    (kk : W p l e R s m args below meth c H locs 0 0 Q (F0 m (pc + 3) ls (.ref (ad (j + 18)) :: rest))) : W p l e R s m args below meth c H locs 0 0 Q (F0 m pc ls (.ref (ad j) :: rest)) :=
  P_get (ci := 3) (k := 2) (N := 5) (T := TX3) C hP hj (ent_3 hk) rfl inT3 (by decide) hlink rfl rfl hdg kk
theorem gf_3_3 (C : CX p s m args meth c cc nL retc own D cy ad zz b n A) (hP : va_P D vwCl (pool cy ad b n M) H) {index j : Nat} (hj : inP b n j) (hk : kd j = 3) (hlink : Cond.fieldLink own index "BedsocksKeepRoads$Text" "stack" "[I" ∈ tb) (hdg : decode cc pc = .ok (.getfield index, 3))
    (kk : W p l e R s m args below meth c H locs 0 0 Q (F0 m (pc + 3) ls (.ref (ad 70) :: rest))) : W p l e R s m args below meth c H locs 0 0 Q (F0 m pc ls (.ref (ad j) :: rest)) :=
  P_get (ci := 3) (k := 3) (N := 5) (T := TX3) C hP hj (ent_3 hk) rfl inT3 (by decide) hlink rfl rfl hdg kk
theorem gf_3_4 (C : CX p s m args meth c cc nL retc own D cy ad zz b n A) (hP : va_P D vwCl (pool cy ad b n M) H) {index j : Nat} (hj : inP b n j) (hk : kd j = 3) (hlink : Cond.fieldLink own index "BedsocksKeepRoads$Text" "size" "I" ∈ tb) (hdg : decode cc pc = .ok (.getfield index, 3))
    (kk : W p l e R s m args below meth c H locs 0 0 Q (F0 m (pc + 3) ls (.int (FI M j 4) :: rest))) : W p l e R s m args below meth c H locs 0 0 Q (F0 m pc ls (.ref (ad j) :: rest)) :=
  P_get (ci := 3) (k := 4) (N := 5) (T := TX3) C hP hj (ent_3 hk) rfl inT3 (by decide) hlink rfl rfl hdg kk
theorem pf_3_4 (C : CX p s m args meth c cc nL retc own D cy ad zz b n A) (hP : va_P D vwCl (pool cy ad b n M) H) (hD : va_D A (pool cy ad b n M)) (hS : va_S A s.heap H locs) {index j : Nat} {x : Int32} (hj : inP b n j) (hk : kd j = 3) (hlink : Cond.fieldLink own index "BedsocksKeepRoads$Text" "size" "I" ∈ tb) (hdg : decode cc pc = .ok (.putfield index, 3))
    (kk : ∀ (H : Heap) (locs : List Loc), va_P D vwCl (pool cy ad b n (sFI M j 4 x)) H → va_D A (pool cy ad b n (sFI M j 4 x)) → va_S A s.heap H locs → W p l e R s m args below meth c H locs 0 0 Q (F0 m (pc + 3) ls rest)) : W p l e R s m args below meth c H locs 0 0 Q (F0 m pc ls (.int x :: .ref (ad j) :: rest)) :=
  P_put (ci := 3) (k := 4) (N := 5) (T := TX3) (ty := tyX3) (M' := (sFI M j 4 x)) C hP hD hS hj (ent_3 hk) rfl inT3 tyX3_ok nmX3 (by decide) hlink rfl rfl rfl rfl (show 4 < 5 from by decide) (by rw [ent_3 hk]; simp [sFI, sFJ, FI, FJ, RF, up2, List.set]) eo_FI hdg kk
theorem gf_4_0 (C : CX p s m args meth c cc nL retc own D cy ad zz b n A) (hP : va_P D vwCl (pool cy ad b n M) H) {index j : Nat} (hj : inP b n j) (hk : kd j = 4) (hlink : Cond.fieldLink own index "BedsocksKeepRoads$World" "water" "J" ∈ tb) (hdg : decode cc pc = .ok (.getfield index, 3))
    (kk : W p l e R s m args below meth c H locs 0 0 Q (F0 m (pc + 3) ls (.long (FJ M j 0) :: rest))) : W p l e R s m args below meth c H locs 0 0 Q (F0 m pc ls (.ref (ad j) :: rest)) :=
  P_get (ci := 4) (k := 0) (N := 5) (T := TX4) C hP hj (ent_4 hk) rfl inT4 (by decide) hlink rfl rfl hdg kk
theorem pf_4_0 (C : CX p s m args meth c cc nL retc own D cy ad zz b n A) (hP : va_P D vwCl (pool cy ad b n M) H) (hD : va_D A (pool cy ad b n M)) (hS : va_S A s.heap H locs) {index j : Nat} {x : Int64} (hj : inP b n j) (hk : kd j = 4) (hlink : Cond.fieldLink own index "BedsocksKeepRoads$World" "water" "J" ∈ tb) (hdg : decode cc pc = .ok (.putfield index, 3))
    (kk : ∀ (H : Heap) (locs : List Loc), va_P D vwCl (pool cy ad b n (sFJ M j 0 x)) H → va_D A (pool cy ad b n (sFJ M j 0 x)) → va_S A s.heap H locs → W p l e R s m args below meth c H locs 0 0 Q (F0 m (pc + 3) ls rest)) : W p l e R s m args below meth c H locs 0 0 Q (F0 m pc ls (.long x :: .ref (ad j) :: rest)) :=
  P_put (ci := 4) (k := 0) (N := 5) (T := TX4) (ty := tyX4) (M' := (sFJ M j 0 x)) C hP hD hS hj (ent_4 hk) rfl inT4 tyX4_ok nmX4 (by decide) hlink rfl rfl rfl rfl (show 0 < 5 from by decide) (by rw [ent_4 hk]; simp [sFI, sFJ, FI, FJ, RF, up2, List.set]) eo_FJ hdg kk
theorem gf_4_1 (C : CX p s m args meth c cc nL retc own D cy ad zz b n A) (hP : va_P D vwCl (pool cy ad b n M) H) {index j : Nat} (hj : inP b n j) (hk : kd j = 4) (hlink : Cond.fieldLink own index "BedsocksKeepRoads$World" "night" "I" ∈ tb) (hdg : decode cc pc = .ok (.getfield index, 3))
    (kk : W p l e R s m args below meth c H locs 0 0 Q (F0 m (pc + 3) ls (.int (FI M j 1) :: rest))) : W p l e R s m args below meth c H locs 0 0 Q (F0 m pc ls (.ref (ad j) :: rest)) :=
  P_get (ci := 4) (k := 1) (N := 5) (T := TX4) C hP hj (ent_4 hk) rfl inT4 (by decide) hlink rfl rfl hdg kk
theorem pf_4_1 (C : CX p s m args meth c cc nL retc own D cy ad zz b n A) (hP : va_P D vwCl (pool cy ad b n M) H) (hD : va_D A (pool cy ad b n M)) (hS : va_S A s.heap H locs) {index j : Nat} {x : Int32} (hj : inP b n j) (hk : kd j = 4) (hlink : Cond.fieldLink own index "BedsocksKeepRoads$World" "night" "I" ∈ tb) (hdg : decode cc pc = .ok (.putfield index, 3))
    (kk : ∀ (H : Heap) (locs : List Loc), va_P D vwCl (pool cy ad b n (sFI M j 1 x)) H → va_D A (pool cy ad b n (sFI M j 1 x)) → va_S A s.heap H locs → W p l e R s m args below meth c H locs 0 0 Q (F0 m (pc + 3) ls rest)) : W p l e R s m args below meth c H locs 0 0 Q (F0 m pc ls (.int x :: .ref (ad j) :: rest)) :=
  P_put (ci := 4) (k := 1) (N := 5) (T := TX4) (ty := tyX4) (M' := (sFI M j 1 x)) C hP hD hS hj (ent_4 hk) rfl inT4 tyX4_ok nmX4 (by decide) hlink rfl rfl rfl rfl (show 1 < 5 from by decide) (by rw [ent_4 hk]; simp [sFI, sFJ, FI, FJ, RF, up2, List.set]) eo_FI hdg kk
theorem gf_4_2 (C : CX p s m args meth c cc nL retc own D cy ad zz b n A) (hP : va_P D vwCl (pool cy ad b n M) H) {index j : Nat} (hj : inP b n j) (hk : kd j = 4) (hlink : Cond.fieldLink own index "BedsocksKeepRoads$World" "law" "I" ∈ tb) (hdg : decode cc pc = .ok (.getfield index, 3))
    (kk : W p l e R s m args below meth c H locs 0 0 Q (F0 m (pc + 3) ls (.int (FI M j 2) :: rest))) : W p l e R s m args below meth c H locs 0 0 Q (F0 m pc ls (.ref (ad j) :: rest)) :=
  P_get (ci := 4) (k := 2) (N := 5) (T := TX4) C hP hj (ent_4 hk) rfl inT4 (by decide) hlink rfl rfl hdg kk
theorem pf_4_2 (C : CX p s m args meth c cc nL retc own D cy ad zz b n A) (hP : va_P D vwCl (pool cy ad b n M) H) (hD : va_D A (pool cy ad b n M)) (hS : va_S A s.heap H locs) {index j : Nat} {x : Int32} (hj : inP b n j) (hk : kd j = 4) (hlink : Cond.fieldLink own index "BedsocksKeepRoads$World" "law" "I" ∈ tb) (hdg : decode cc pc = .ok (.putfield index, 3))
    (kk : ∀ (H : Heap) (locs : List Loc), va_P D vwCl (pool cy ad b n (sFI M j 2 x)) H → va_D A (pool cy ad b n (sFI M j 2 x)) → va_S A s.heap H locs → W p l e R s m args below meth c H locs 0 0 Q (F0 m (pc + 3) ls rest)) : W p l e R s m args below meth c H locs 0 0 Q (F0 m pc ls (.int x :: .ref (ad j) :: rest)) :=
  P_put (ci := 4) (k := 2) (N := 5) (T := TX4) (ty := tyX4) (M' := (sFI M j 2 x)) C hP hD hS hj (ent_4 hk) rfl inT4 tyX4_ok nmX4 (by decide) hlink rfl rfl rfl rfl (show 2 < 5 from by decide) (by rw [ent_4 hk]; simp [sFI, sFJ, FI, FJ, RF, up2, List.set]) eo_FI hdg kk
theorem gf_4_3 (C : CX p s m args meth c cc nL retc own D cy ad zz b n A) (hP : va_P D vwCl (pool cy ad b n M) H) {index j : Nat} (hj : inP b n j) (hk : kd j = 4) (hlink : Cond.fieldLink own index "BedsocksKeepRoads$World" "count" "I" ∈ tb) (hdg : decode cc pc = .ok (.getfield index, 3))
    (kk : W p l e R s m args below meth c H locs 0 0 Q (F0 m (pc + 3) ls (.int (FI M j 3) :: rest))) : W p l e R s m args below meth c H locs 0 0 Q (F0 m pc ls (.ref (ad j) :: rest)) :=
  P_get (ci := 4) (k := 3) (N := 5) (T := TX4) C hP hj (ent_4 hk) rfl inT4 (by decide) hlink rfl rfl hdg kk
theorem pf_4_3 (C : CX p s m args meth c cc nL retc own D cy ad zz b n A) (hP : va_P D vwCl (pool cy ad b n M) H) (hD : va_D A (pool cy ad b n M)) (hS : va_S A s.heap H locs) {index j : Nat} {x : Int32} (hj : inP b n j) (hk : kd j = 4) (hlink : Cond.fieldLink own index "BedsocksKeepRoads$World" "count" "I" ∈ tb) (hdg : decode cc pc = .ok (.putfield index, 3))
    (kk : ∀ (H : Heap) (locs : List Loc), va_P D vwCl (pool cy ad b n (sFI M j 3 x)) H → va_D A (pool cy ad b n (sFI M j 3 x)) → va_S A s.heap H locs → W p l e R s m args below meth c H locs 0 0 Q (F0 m (pc + 3) ls rest)) : W p l e R s m args below meth c H locs 0 0 Q (F0 m pc ls (.int x :: .ref (ad j) :: rest)) :=
  P_put (ci := 4) (k := 3) (N := 5) (T := TX4) (ty := tyX4) (M' := (sFI M j 3 x)) C hP hD hS hj (ent_4 hk) rfl inT4 tyX4_ok nmX4 (by decide) hlink rfl rfl rfl rfl (show 3 < 5 from by decide) (by rw [ent_4 hk]; simp [sFI, sFJ, FI, FJ, RF, up2, List.set]) eo_FI hdg kk
theorem gf_4_4 (C : CX p s m args meth c cc nL retc own D cy ad zz b n A) (hP : va_P D vwCl (pool cy ad b n M) H) {index j : Nat} (hj : inP b n j) (hk : kd j = 4) (hlink : Cond.fieldLink own index "BedsocksKeepRoads$World" "all" "[LBedsocksKeepRoads$Sleeper;" ∈ tb) (hdg : decode cc pc = .ok (.getfield index, 3))
    (kk : W p l e R s m args below meth c H locs 0 0 Q (F0 m (pc + 3) ls (.ref (ad (j + 41)) :: rest))) : W p l e R s m args below meth c H locs 0 0 Q (F0 m pc ls (.ref (ad j) :: rest)) :=
  P_get (ci := 4) (k := 4) (N := 5) (T := TX4) C hP hj (ent_4 hk) rfl inT4 (by decide) hlink rfl rfl hdg kk
theorem gf_5_0 (C : CX p s m args meth c cc nL retc own D cy ad zz b n A) (hP : va_P D vwCl (pool cy ad b n M) H) {index j : Nat} (hj : inP b n j) (hk : kd j = 5) (hlink : Cond.fieldLink own index "BedsocksKeepRoads" "truth" "LBedsocksKeepRoads$World;" ∈ tb) (hdg : decode cc pc = .ok (.getfield index, 3))
    (kk : W p l e R s m args below meth c H locs 0 0 Q (F0 m (pc + 3) ls (.ref (ad 1) :: rest))) : W p l e R s m args below meth c H locs 0 0 Q (F0 m pc ls (.ref (ad j) :: rest)) :=
  P_get (ci := 5) (k := 0) (N := 11) (T := TX5) C hP hj (ent_5 hk) rfl inT5 (by decide) hlink rfl rfl hdg kk
theorem gf_5_1 (C : CX p s m args meth c cc nL retc own D cy ad zz b n A) (hP : va_P D vwCl (pool cy ad b n M) H) {index j : Nat} (hj : inP b n j) (hk : kd j = 5) (hlink : Cond.fieldLink own index "BedsocksKeepRoads" "thought" "LBedsocksKeepRoads$World;" ∈ tb) (hdg : decode cc pc = .ok (.getfield index, 3))
    (kk : W p l e R s m args below meth c H locs 0 0 Q (F0 m (pc + 3) ls (.ref (ad 2) :: rest))) : W p l e R s m args below meth c H locs 0 0 Q (F0 m pc ls (.ref (ad j) :: rest)) :=
  P_get (ci := 5) (k := 1) (N := 11) (T := TX5) C hP hj (ent_5 hk) rfl inT5 (by decide) hlink rfl rfl hdg kk
theorem gf_5_2 (C : CX p s m args meth c cc nL retc own D cy ad zz b n A) (hP : va_P D vwCl (pool cy ad b n M) H) {index j : Nat} (hj : inP b n j) (hk : kd j = 5) (hlink : Cond.fieldLink own index "BedsocksKeepRoads" "kept" "LBedsocksKeepRoads$World;" ∈ tb) (hdg : decode cc pc = .ok (.getfield index, 3))
    (kk : W p l e R s m args below meth c H locs 0 0 Q (F0 m (pc + 3) ls (.ref (ad 3) :: rest))) : W p l e R s m args below meth c H locs 0 0 Q (F0 m pc ls (.ref (ad j) :: rest)) :=
  P_get (ci := 5) (k := 2) (N := 11) (T := TX5) C hP hj (ent_5 hk) rfl inT5 (by decide) hlink rfl rfl hdg kk
theorem gf_5_3 (C : CX p s m args meth c cc nL retc own D cy ad zz b n A) (hP : va_P D vwCl (pool cy ad b n M) H) {index j : Nat} (hj : inP b n j) (hk : kd j = 5) (hlink : Cond.fieldLink own index "BedsocksKeepRoads" "ghost" "LBedsocksKeepRoads$Sleeper;" ∈ tb) (hdg : decode cc pc = .ok (.getfield index, 3))
    (kk : W p l e R s m args below meth c H locs 0 0 Q (F0 m (pc + 3) ls (.ref (ad 4) :: rest))) : W p l e R s m args below meth c H locs 0 0 Q (F0 m pc ls (.ref (ad j) :: rest)) :=
  P_get (ci := 5) (k := 3) (N := 11) (T := TX5) C hP hj (ent_5 hk) rfl inT5 (by decide) hlink rfl rfl hdg kk
theorem gf_5_4 (C : CX p s m args meth c cc nL retc own D cy ad zz b n A) (hP : va_P D vwCl (pool cy ad b n M) H) {index j : Nat} (hj : inP b n j) (hk : kd j = 5) (hlink : Cond.fieldLink own index "BedsocksKeepRoads" "texts" "[LBedsocksKeepRoads$Text;" ∈ tb) (hdg : decode cc pc = .ok (.getfield index, 3))
    (kk : W p l e R s m args below meth c H locs 0 0 Q (F0 m (pc + 3) ls (.ref (ad 45) :: rest))) : W p l e R s m args below meth c H locs 0 0 Q (F0 m pc ls (.ref (ad j) :: rest)) :=
  P_get (ci := 5) (k := 4) (N := 11) (T := TX5) C hP hj (ent_5 hk) rfl inT5 (by decide) hlink rfl rfl hdg kk
theorem gf_5_5 (C : CX p s m args meth c cc nL retc own D cy ad zz b n A) (hP : va_P D vwCl (pool cy ad b n M) H) {index j : Nat} (hj : inP b n j) (hk : kd j = 5) (hlink : Cond.fieldLink own index "BedsocksKeepRoads" "tape" "[I" ∈ tb) (hdg : decode cc pc = .ok (.getfield index, 3))
    (kk : W p l e R s m args below meth c H locs 0 0 Q (F0 m (pc + 3) ls (.ref (ad 71) :: rest))) : W p l e R s m args below meth c H locs 0 0 Q (F0 m pc ls (.ref (ad j) :: rest)) :=
  P_get (ci := 5) (k := 5) (N := 11) (T := TX5) C hP hj (ent_5 hk) rfl inT5 (by decide) hlink rfl rfl hdg kk
theorem gf_5_6 (C : CX p s m args meth c cc nL retc own D cy ad zz b n A) (hP : va_P D vwCl (pool cy ad b n M) H) {index j : Nat} (hj : inP b n j) (hk : kd j = 5) (hlink : Cond.fieldLink own index "BedsocksKeepRoads" "reader" "LBedsocksKeepRoads$Reader;" ∈ tb) (hdg : decode cc pc = .ok (.getfield index, 3))
    (kk : W p l e R s m args below meth c H locs 0 0 Q (F0 m (pc + 3) ls (.ref (ad 72) :: rest))) : W p l e R s m args below meth c H locs 0 0 Q (F0 m pc ls (.ref (ad j) :: rest)) :=
  P_get (ci := 5) (k := 6) (N := 11) (T := TX5) C hP hj (ent_5 hk) rfl inT5 (by decide) hlink rfl rfl hdg kk
theorem gf_5_7 (C : CX p s m args meth c cc nL retc own D cy ad zz b n A) (hP : va_P D vwCl (pool cy ad b n M) H) {index j : Nat} (hj : inP b n j) (hk : kd j = 5) (hlink : Cond.fieldLink own index "BedsocksKeepRoads" "sheets" "[LBedsocksKeepRoads$Sheet;" ∈ tb) (hdg : decode cc pc = .ok (.getfield index, 3))
    (kk : W p l e R s m args below meth c H locs 0 0 Q (F0 m (pc + 3) ls (.ref (ad 73) :: rest))) : W p l e R s m args below meth c H locs 0 0 Q (F0 m pc ls (.ref (ad j) :: rest)) :=
  P_get (ci := 5) (k := 7) (N := 11) (T := TX5) C hP hj (ent_5 hk) rfl inT5 (by decide) hlink rfl rfl hdg kk
theorem gf_5_8 (C : CX p s m args meth c cc nL retc own D cy ad zz b n A) (hP : va_P D vwCl (pool cy ad b n M) H) {index j : Nat} (hj : inP b n j) (hk : kd j = 5) (hlink : Cond.fieldLink own index "BedsocksKeepRoads" "textCount" "I" ∈ tb) (hdg : decode cc pc = .ok (.getfield index, 3))
    (kk : W p l e R s m args below meth c H locs 0 0 Q (F0 m (pc + 3) ls (.int (FI M j 8) :: rest))) : W p l e R s m args below meth c H locs 0 0 Q (F0 m pc ls (.ref (ad j) :: rest)) :=
  P_get (ci := 5) (k := 8) (N := 11) (T := TX5) C hP hj (ent_5 hk) rfl inT5 (by decide) hlink rfl rfl hdg kk
theorem pf_5_8 (C : CX p s m args meth c cc nL retc own D cy ad zz b n A) (hP : va_P D vwCl (pool cy ad b n M) H) (hD : va_D A (pool cy ad b n M)) (hS : va_S A s.heap H locs) {index j : Nat} {x : Int32} (hj : inP b n j) (hk : kd j = 5) (hlink : Cond.fieldLink own index "BedsocksKeepRoads" "textCount" "I" ∈ tb) (hdg : decode cc pc = .ok (.putfield index, 3))
    (kk : ∀ (H : Heap) (locs : List Loc), va_P D vwCl (pool cy ad b n (sFI M j 8 x)) H → va_D A (pool cy ad b n (sFI M j 8 x)) → va_S A s.heap H locs → W p l e R s m args below meth c H locs 0 0 Q (F0 m (pc + 3) ls rest)) : W p l e R s m args below meth c H locs 0 0 Q (F0 m pc ls (.int x :: .ref (ad j) :: rest)) :=
  P_put (ci := 5) (k := 8) (N := 11) (T := TX5) (ty := tyX5) (M' := (sFI M j 8 x)) C hP hD hS hj (ent_5 hk) rfl inT5 tyX5_ok nmX5 (by decide) hlink rfl rfl rfl rfl (show 8 < 11 from by decide) (by rw [ent_5 hk]; simp [sFI, sFJ, FI, FJ, RF, up2, List.set]) eo_FI hdg kk
theorem gf_5_9 (C : CX p s m args meth c cc nL retc own D cy ad zz b n A) (hP : va_P D vwCl (pool cy ad b n M) H) {index j : Nat} (hj : inP b n j) (hk : kd j = 5) (hlink : Cond.fieldLink own index "BedsocksKeepRoads" "tapeSize" "I" ∈ tb) (hdg : decode cc pc = .ok (.getfield index, 3))
    (kk : W p l e R s m args below meth c H locs 0 0 Q (F0 m (pc + 3) ls (.int (FI M j 9) :: rest))) : W p l e R s m args below meth c H locs 0 0 Q (F0 m pc ls (.ref (ad j) :: rest)) :=
  P_get (ci := 5) (k := 9) (N := 11) (T := TX5) C hP hj (ent_5 hk) rfl inT5 (by decide) hlink rfl rfl hdg kk
theorem pf_5_9 (C : CX p s m args meth c cc nL retc own D cy ad zz b n A) (hP : va_P D vwCl (pool cy ad b n M) H) (hD : va_D A (pool cy ad b n M)) (hS : va_S A s.heap H locs) {index j : Nat} {x : Int32} (hj : inP b n j) (hk : kd j = 5) (hlink : Cond.fieldLink own index "BedsocksKeepRoads" "tapeSize" "I" ∈ tb) (hdg : decode cc pc = .ok (.putfield index, 3))
    (kk : ∀ (H : Heap) (locs : List Loc), va_P D vwCl (pool cy ad b n (sFI M j 9 x)) H → va_D A (pool cy ad b n (sFI M j 9 x)) → va_S A s.heap H locs → W p l e R s m args below meth c H locs 0 0 Q (F0 m (pc + 3) ls rest)) : W p l e R s m args below meth c H locs 0 0 Q (F0 m pc ls (.int x :: .ref (ad j) :: rest)) :=
  P_put (ci := 5) (k := 9) (N := 11) (T := TX5) (ty := tyX5) (M' := (sFI M j 9 x)) C hP hD hS hj (ent_5 hk) rfl inT5 tyX5_ok nmX5 (by decide) hlink rfl rfl rfl rfl (show 9 < 11 from by decide) (by rw [ent_5 hk]; simp [sFI, sFJ, FI, FJ, RF, up2, List.set]) eo_FI hdg kk
theorem gf_5_10 (C : CX p s m args meth c cc nL retc own D cy ad zz b n A) (hP : va_P D vwCl (pool cy ad b n M) H) {index j : Nat} (hj : inP b n j) (hk : kd j = 5) (hlink : Cond.fieldLink own index "BedsocksKeepRoads" "hasImage" "Z" ∈ tb) (hdg : decode cc pc = .ok (.getfield index, 3))
    (kk : W p l e R s m args below meth c H locs 0 0 Q (F0 m (pc + 3) ls (.int (FI M j 10) :: rest))) : W p l e R s m args below meth c H locs 0 0 Q (F0 m pc ls (.ref (ad j) :: rest)) :=
  P_get (ci := 5) (k := 10) (N := 11) (T := TX5) C hP hj (ent_5 hk) rfl inT5 (by decide) hlink rfl rfl hdg kk
theorem pf_5_10 (C : CX p s m args meth c cc nL retc own D cy ad zz b n A) (hP : va_P D vwCl (pool cy ad b n M) H) (hD : va_D A (pool cy ad b n M)) (hS : va_S A s.heap H locs) {index j : Nat} {x : Int32} (hj : inP b n j) (hk : kd j = 5) (hz : narrow .boolean (.int x) = .int x) (hz2 : fits .boolean (.int x) = true) (hlink : Cond.fieldLink own index "BedsocksKeepRoads" "hasImage" "Z" ∈ tb) (hdg : decode cc pc = .ok (.putfield index, 3))
    (kk : ∀ (H : Heap) (locs : List Loc), va_P D vwCl (pool cy ad b n (sFI M j 10 x)) H → va_D A (pool cy ad b n (sFI M j 10 x)) → va_S A s.heap H locs → W p l e R s m args below meth c H locs 0 0 Q (F0 m (pc + 3) ls rest)) : W p l e R s m args below meth c H locs 0 0 Q (F0 m pc ls (.int x :: .ref (ad j) :: rest)) :=
  P_put (ci := 5) (k := 10) (N := 11) (T := TX5) (ty := tyX5) (M' := (sFI M j 10 x)) C hP hD hS hj (ent_5 hk) rfl inT5 tyX5_ok nmX5 (by decide) hlink rfl rfl hz hz2 (show 10 < 11 from by decide) (by rw [ent_5 hk]; simp [sFI, sFJ, FI, FJ, RF, up2, List.set]) eo_FI hdg kk
theorem gf_6_0 (C : CX p s m args meth c cc nL retc own D cy ad zz b n A) (hP : va_P D vwCl (pool cy ad b n M) H) {index j : Nat} (hj : inP b n j) (hk : kd j = 6) (hlink : Cond.fieldLink own index "BedsocksKeepRoadsModel" "sleepers" "I" ∈ tb) (hdg : decode cc pc = .ok (.getfield index, 3))
    (kk : W p l e R s m args below meth c H locs 0 0 Q (F0 m (pc + 3) ls (.int (FI M j 0) :: rest))) : W p l e R s m args below meth c H locs 0 0 Q (F0 m pc ls (.ref (ad j) :: rest)) :=
  P_get (ci := 6) (k := 0) (N := 37) (T := TX6) C hP hj (ent_6 hk) rfl inT6 (by decide) hlink rfl rfl hdg kk
theorem pf_6_0 (C : CX p s m args meth c cc nL retc own D cy ad zz b n A) (hP : va_P D vwCl (pool cy ad b n M) H) (hD : va_D A (pool cy ad b n M)) (hS : va_S A s.heap H locs) {index j : Nat} {x : Int32} (hj : inP b n j) (hk : kd j = 6) (hlink : Cond.fieldLink own index "BedsocksKeepRoadsModel" "sleepers" "I" ∈ tb) (hdg : decode cc pc = .ok (.putfield index, 3))
    (kk : ∀ (H : Heap) (locs : List Loc), va_P D vwCl (pool cy ad b n (sFI M j 0 x)) H → va_D A (pool cy ad b n (sFI M j 0 x)) → va_S A s.heap H locs → W p l e R s m args below meth c H locs 0 0 Q (F0 m (pc + 3) ls rest)) : W p l e R s m args below meth c H locs 0 0 Q (F0 m pc ls (.int x :: .ref (ad j) :: rest)) :=
  P_put (ci := 6) (k := 0) (N := 37) (T := TX6) (ty := tyX6) (M' := (sFI M j 0 x)) C hP hD hS hj (ent_6 hk) rfl inT6 tyX6_ok nmX6 (by decide) hlink rfl rfl rfl rfl (show 0 < 37 from by decide) (by rw [ent_6 hk]; simp [sFI, sFJ, FI, FJ, RF, up2, List.set]) eo_FI hdg kk
theorem gf_6_1 (C : CX p s m args meth c cc nL retc own D cy ad zz b n A) (hP : va_P D vwCl (pool cy ad b n M) H) {index j : Nat} (hj : inP b n j) (hk : kd j = 6) (hlink : Cond.fieldLink own index "BedsocksKeepRoadsModel" "kind" "[I" ∈ tb) (hdg : decode cc pc = .ok (.getfield index, 3))
    (kk : W p l e R s m args below meth c H locs 0 0 Q (F0 m (pc + 3) ls (.ref (ad 101) :: rest))) : W p l e R s m args below meth c H locs 0 0 Q (F0 m pc ls (.ref (ad j) :: rest)) :=
  P_get (ci := 6) (k := 1) (N := 37) (T := TX6) C hP hj (ent_6 hk) rfl inT6 (by decide) hlink rfl rfl hdg kk
theorem gf_6_2 (C : CX p s m args meth c cc nL retc own D cy ad zz b n A) (hP : va_P D vwCl (pool cy ad b n M) H) {index j : Nat} (hj : inP b n j) (hk : kd j = 6) (hlink : Cond.fieldLink own index "BedsocksKeepRoadsModel" "moreOf" "[I" ∈ tb) (hdg : decode cc pc = .ok (.getfield index, 3))
    (kk : W p l e R s m args below meth c H locs 0 0 Q (F0 m (pc + 3) ls (.ref (ad 102) :: rest))) : W p l e R s m args below meth c H locs 0 0 Q (F0 m pc ls (.ref (ad j) :: rest)) :=
  P_get (ci := 6) (k := 2) (N := 37) (T := TX6) C hP hj (ent_6 hk) rfl inT6 (by decide) hlink rfl rfl hdg kk
theorem gf_6_3 (C : CX p s m args meth c cc nL retc own D cy ad zz b n A) (hP : va_P D vwCl (pool cy ad b n M) H) {index j : Nat} (hj : inP b n j) (hk : kd j = 6) (hlink : Cond.fieldLink own index "BedsocksKeepRoadsModel" "rows" "[I" ∈ tb) (hdg : decode cc pc = .ok (.getfield index, 3))
    (kk : W p l e R s m args below meth c H locs 0 0 Q (F0 m (pc + 3) ls (.ref (ad 103) :: rest))) : W p l e R s m args below meth c H locs 0 0 Q (F0 m pc ls (.ref (ad j) :: rest)) :=
  P_get (ci := 6) (k := 3) (N := 37) (T := TX6) C hP hj (ent_6 hk) rfl inT6 (by decide) hlink rfl rfl hdg kk
theorem gf_6_4 (C : CX p s m args meth c cc nL retc own D cy ad zz b n A) (hP : va_P D vwCl (pool cy ad b n M) H) {index j : Nat} (hj : inP b n j) (hk : kd j = 6) (hlink : Cond.fieldLink own index "BedsocksKeepRoadsModel" "socks" "[I" ∈ tb) (hdg : decode cc pc = .ok (.getfield index, 3))
    (kk : W p l e R s m args below meth c H locs 0 0 Q (F0 m (pc + 3) ls (.ref (ad 104) :: rest))) : W p l e R s m args below meth c H locs 0 0 Q (F0 m pc ls (.ref (ad j) :: rest)) :=
  P_get (ci := 6) (k := 4) (N := 37) (T := TX6) C hP hj (ent_6 hk) rfl inT6 (by decide) hlink rfl rfl hdg kk
theorem gf_6_5 (C : CX p s m args meth c cc nL retc own D cy ad zz b n A) (hP : va_P D vwCl (pool cy ad b n M) H) {index j : Nat} (hj : inP b n j) (hk : kd j = 6) (hlink : Cond.fieldLink own index "BedsocksKeepRoadsModel" "sockSize" "[I" ∈ tb) (hdg : decode cc pc = .ok (.getfield index, 3))
    (kk : W p l e R s m args below meth c H locs 0 0 Q (F0 m (pc + 3) ls (.ref (ad 105) :: rest))) : W p l e R s m args below meth c H locs 0 0 Q (F0 m pc ls (.ref (ad j) :: rest)) :=
  P_get (ci := 6) (k := 5) (N := 37) (T := TX6) C hP hj (ent_6 hk) rfl inT6 (by decide) hlink rfl rfl hdg kk
theorem gf_6_6 (C : CX p s m args meth c cc nL retc own D cy ad zz b n A) (hP : va_P D vwCl (pool cy ad b n M) H) {index j : Nat} (hj : inP b n j) (hk : kd j = 6) (hlink : Cond.fieldLink own index "BedsocksKeepRoadsModel" "water" "J" ∈ tb) (hdg : decode cc pc = .ok (.getfield index, 3))
    (kk : W p l e R s m args below meth c H locs 0 0 Q (F0 m (pc + 3) ls (.long (FJ M j 6) :: rest))) : W p l e R s m args below meth c H locs 0 0 Q (F0 m pc ls (.ref (ad j) :: rest)) :=
  P_get (ci := 6) (k := 6) (N := 37) (T := TX6) C hP hj (ent_6 hk) rfl inT6 (by decide) hlink rfl rfl hdg kk
theorem pf_6_6 (C : CX p s m args meth c cc nL retc own D cy ad zz b n A) (hP : va_P D vwCl (pool cy ad b n M) H) (hD : va_D A (pool cy ad b n M)) (hS : va_S A s.heap H locs) {index j : Nat} {x : Int64} (hj : inP b n j) (hk : kd j = 6) (hlink : Cond.fieldLink own index "BedsocksKeepRoadsModel" "water" "J" ∈ tb) (hdg : decode cc pc = .ok (.putfield index, 3))
    (kk : ∀ (H : Heap) (locs : List Loc), va_P D vwCl (pool cy ad b n (sFJ M j 6 x)) H → va_D A (pool cy ad b n (sFJ M j 6 x)) → va_S A s.heap H locs → W p l e R s m args below meth c H locs 0 0 Q (F0 m (pc + 3) ls rest)) : W p l e R s m args below meth c H locs 0 0 Q (F0 m pc ls (.long x :: .ref (ad j) :: rest)) :=
  P_put (ci := 6) (k := 6) (N := 37) (T := TX6) (ty := tyX6) (M' := (sFJ M j 6 x)) C hP hD hS hj (ent_6 hk) rfl inT6 tyX6_ok nmX6 (by decide) hlink rfl rfl rfl rfl (show 6 < 37 from by decide) (by rw [ent_6 hk]; simp [sFI, sFJ, FI, FJ, RF, up2, List.set]) eo_FJ hdg kk
theorem gf_6_7 (C : CX p s m args meth c cc nL retc own D cy ad zz b n A) (hP : va_P D vwCl (pool cy ad b n M) H) {index j : Nat} (hj : inP b n j) (hk : kd j = 6) (hlink : Cond.fieldLink own index "BedsocksKeepRoadsModel" "nights" "I" ∈ tb) (hdg : decode cc pc = .ok (.getfield index, 3))
    (kk : W p l e R s m args below meth c H locs 0 0 Q (F0 m (pc + 3) ls (.int (FI M j 7) :: rest))) : W p l e R s m args below meth c H locs 0 0 Q (F0 m pc ls (.ref (ad j) :: rest)) :=
  P_get (ci := 6) (k := 7) (N := 37) (T := TX6) C hP hj (ent_6 hk) rfl inT6 (by decide) hlink rfl rfl hdg kk
theorem pf_6_7 (C : CX p s m args meth c cc nL retc own D cy ad zz b n A) (hP : va_P D vwCl (pool cy ad b n M) H) (hD : va_D A (pool cy ad b n M)) (hS : va_S A s.heap H locs) {index j : Nat} {x : Int32} (hj : inP b n j) (hk : kd j = 6) (hlink : Cond.fieldLink own index "BedsocksKeepRoadsModel" "nights" "I" ∈ tb) (hdg : decode cc pc = .ok (.putfield index, 3))
    (kk : ∀ (H : Heap) (locs : List Loc), va_P D vwCl (pool cy ad b n (sFI M j 7 x)) H → va_D A (pool cy ad b n (sFI M j 7 x)) → va_S A s.heap H locs → W p l e R s m args below meth c H locs 0 0 Q (F0 m (pc + 3) ls rest)) : W p l e R s m args below meth c H locs 0 0 Q (F0 m pc ls (.int x :: .ref (ad j) :: rest)) :=
  P_put (ci := 6) (k := 7) (N := 37) (T := TX6) (ty := tyX6) (M' := (sFI M j 7 x)) C hP hD hS hj (ent_6 hk) rfl inT6 tyX6_ok nmX6 (by decide) hlink rfl rfl rfl rfl (show 7 < 37 from by decide) (by rw [ent_6 hk]; simp [sFI, sFJ, FI, FJ, RF, up2, List.set]) eo_FI hdg kk
theorem gf_6_8 (C : CX p s m args meth c cc nL retc own D cy ad zz b n A) (hP : va_P D vwCl (pool cy ad b n M) H) {index j : Nat} (hj : inP b n j) (hk : kd j = 6) (hlink : Cond.fieldLink own index "BedsocksKeepRoadsModel" "tape" "[I" ∈ tb) (hdg : decode cc pc = .ok (.getfield index, 3))
    (kk : W p l e R s m args below meth c H locs 0 0 Q (F0 m (pc + 3) ls (.ref (ad 106) :: rest))) : W p l e R s m args below meth c H locs 0 0 Q (F0 m pc ls (.ref (ad j) :: rest)) :=
  P_get (ci := 6) (k := 8) (N := 37) (T := TX6) C hP hj (ent_6 hk) rfl inT6 (by decide) hlink rfl rfl hdg kk
theorem gf_6_9 (C : CX p s m args meth c cc nL retc own D cy ad zz b n A) (hP : va_P D vwCl (pool cy ad b n M) H) {index j : Nat} (hj : inP b n j) (hk : kd j = 6) (hlink : Cond.fieldLink own index "BedsocksKeepRoadsModel" "taped" "I" ∈ tb) (hdg : decode cc pc = .ok (.getfield index, 3))
    (kk : W p l e R s m args below meth c H locs 0 0 Q (F0 m (pc + 3) ls (.int (FI M j 9) :: rest))) : W p l e R s m args below meth c H locs 0 0 Q (F0 m pc ls (.ref (ad j) :: rest)) :=
  P_get (ci := 6) (k := 9) (N := 37) (T := TX6) C hP hj (ent_6 hk) rfl inT6 (by decide) hlink rfl rfl hdg kk
theorem pf_6_9 (C : CX p s m args meth c cc nL retc own D cy ad zz b n A) (hP : va_P D vwCl (pool cy ad b n M) H) (hD : va_D A (pool cy ad b n M)) (hS : va_S A s.heap H locs) {index j : Nat} {x : Int32} (hj : inP b n j) (hk : kd j = 6) (hlink : Cond.fieldLink own index "BedsocksKeepRoadsModel" "taped" "I" ∈ tb) (hdg : decode cc pc = .ok (.putfield index, 3))
    (kk : ∀ (H : Heap) (locs : List Loc), va_P D vwCl (pool cy ad b n (sFI M j 9 x)) H → va_D A (pool cy ad b n (sFI M j 9 x)) → va_S A s.heap H locs → W p l e R s m args below meth c H locs 0 0 Q (F0 m (pc + 3) ls rest)) : W p l e R s m args below meth c H locs 0 0 Q (F0 m pc ls (.int x :: .ref (ad j) :: rest)) :=
  P_put (ci := 6) (k := 9) (N := 37) (T := TX6) (ty := tyX6) (M' := (sFI M j 9 x)) C hP hD hS hj (ent_6 hk) rfl inT6 tyX6_ok nmX6 (by decide) hlink rfl rfl rfl rfl (show 9 < 37 from by decide) (by rw [ent_6 hk]; simp [sFI, sFJ, FI, FJ, RF, up2, List.set]) eo_FI hdg kk
theorem gf_6_10 (C : CX p s m args meth c cc nL retc own D cy ad zz b n A) (hP : va_P D vwCl (pool cy ad b n M) H) {index j : Nat} (hj : inP b n j) (hk : kd j = 6) (hlink : Cond.fieldLink own index "BedsocksKeepRoadsModel" "codes" "[I" ∈ tb) (hdg : decode cc pc = .ok (.getfield index, 3))
    (kk : W p l e R s m args below meth c H locs 0 0 Q (F0 m (pc + 3) ls (.ref (ad 107) :: rest))) : W p l e R s m args below meth c H locs 0 0 Q (F0 m pc ls (.ref (ad j) :: rest)) :=
  P_get (ci := 6) (k := 10) (N := 37) (T := TX6) C hP hj (ent_6 hk) rfl inT6 (by decide) hlink rfl rfl hdg kk
theorem gf_6_11 (C : CX p s m args meth c cc nL retc own D cy ad zz b n A) (hP : va_P D vwCl (pool cy ad b n M) H) {index j : Nat} (hj : inP b n j) (hk : kd j = 6) (hlink : Cond.fieldLink own index "BedsocksKeepRoadsModel" "starts" "[I" ∈ tb) (hdg : decode cc pc = .ok (.getfield index, 3))
    (kk : W p l e R s m args below meth c H locs 0 0 Q (F0 m (pc + 3) ls (.ref (ad 108) :: rest))) : W p l e R s m args below meth c H locs 0 0 Q (F0 m pc ls (.ref (ad j) :: rest)) :=
  P_get (ci := 6) (k := 11) (N := 37) (T := TX6) C hP hj (ent_6 hk) rfl inT6 (by decide) hlink rfl rfl hdg kk
theorem gf_6_12 (C : CX p s m args meth c cc nL retc own D cy ad zz b n A) (hP : va_P D vwCl (pool cy ad b n M) H) {index j : Nat} (hj : inP b n j) (hk : kd j = 6) (hlink : Cond.fieldLink own index "BedsocksKeepRoadsModel" "texts" "I" ∈ tb) (hdg : decode cc pc = .ok (.getfield index, 3))
    (kk : W p l e R s m args below meth c H locs 0 0 Q (F0 m (pc + 3) ls (.int (FI M j 12) :: rest))) : W p l e R s m args below meth c H locs 0 0 Q (F0 m pc ls (.ref (ad j) :: rest)) :=
  P_get (ci := 6) (k := 12) (N := 37) (T := TX6) C hP hj (ent_6 hk) rfl inT6 (by decide) hlink rfl rfl hdg kk
theorem pf_6_12 (C : CX p s m args meth c cc nL retc own D cy ad zz b n A) (hP : va_P D vwCl (pool cy ad b n M) H) (hD : va_D A (pool cy ad b n M)) (hS : va_S A s.heap H locs) {index j : Nat} {x : Int32} (hj : inP b n j) (hk : kd j = 6) (hlink : Cond.fieldLink own index "BedsocksKeepRoadsModel" "texts" "I" ∈ tb) (hdg : decode cc pc = .ok (.putfield index, 3))
    (kk : ∀ (H : Heap) (locs : List Loc), va_P D vwCl (pool cy ad b n (sFI M j 12 x)) H → va_D A (pool cy ad b n (sFI M j 12 x)) → va_S A s.heap H locs → W p l e R s m args below meth c H locs 0 0 Q (F0 m (pc + 3) ls rest)) : W p l e R s m args below meth c H locs 0 0 Q (F0 m pc ls (.int x :: .ref (ad j) :: rest)) :=
  P_put (ci := 6) (k := 12) (N := 37) (T := TX6) (ty := tyX6) (M' := (sFI M j 12 x)) C hP hD hS hj (ent_6 hk) rfl inT6 tyX6_ok nmX6 (by decide) hlink rfl rfl rfl rfl (show 12 < 37 from by decide) (by rw [ent_6 hk]; simp [sFI, sFJ, FI, FJ, RF, up2, List.set]) eo_FI hdg kk
theorem gf_6_13 (C : CX p s m args meth c cc nL retc own D cy ad zz b n A) (hP : va_P D vwCl (pool cy ad b n M) H) {index j : Nat} (hj : inP b n j) (hk : kd j = 6) (hlink : Cond.fieldLink own index "BedsocksKeepRoadsModel" "rule" "I" ∈ tb) (hdg : decode cc pc = .ok (.getfield index, 3))
    (kk : W p l e R s m args below meth c H locs 0 0 Q (F0 m (pc + 3) ls (.int (FI M j 13) :: rest))) : W p l e R s m args below meth c H locs 0 0 Q (F0 m pc ls (.ref (ad j) :: rest)) :=
  P_get (ci := 6) (k := 13) (N := 37) (T := TX6) C hP hj (ent_6 hk) rfl inT6 (by decide) hlink rfl rfl hdg kk
theorem pf_6_13 (C : CX p s m args meth c cc nL retc own D cy ad zz b n A) (hP : va_P D vwCl (pool cy ad b n M) H) (hD : va_D A (pool cy ad b n M)) (hS : va_S A s.heap H locs) {index j : Nat} {x : Int32} (hj : inP b n j) (hk : kd j = 6) (hlink : Cond.fieldLink own index "BedsocksKeepRoadsModel" "rule" "I" ∈ tb) (hdg : decode cc pc = .ok (.putfield index, 3))
    (kk : ∀ (H : Heap) (locs : List Loc), va_P D vwCl (pool cy ad b n (sFI M j 13 x)) H → va_D A (pool cy ad b n (sFI M j 13 x)) → va_S A s.heap H locs → W p l e R s m args below meth c H locs 0 0 Q (F0 m (pc + 3) ls rest)) : W p l e R s m args below meth c H locs 0 0 Q (F0 m pc ls (.int x :: .ref (ad j) :: rest)) :=
  P_put (ci := 6) (k := 13) (N := 37) (T := TX6) (ty := tyX6) (M' := (sFI M j 13 x)) C hP hD hS hj (ent_6 hk) rfl inT6 tyX6_ok nmX6 (by decide) hlink rfl rfl rfl rfl (show 13 < 37 from by decide) (by rw [ent_6 hk]; simp [sFI, sFJ, FI, FJ, RF, up2, List.set]) eo_FI hdg kk
theorem gf_6_14 (C : CX p s m args meth c cc nL retc own D cy ad zz b n A) (hP : va_P D vwCl (pool cy ad b n M) H) {index j : Nat} (hj : inP b n j) (hk : kd j = 6) (hlink : Cond.fieldLink own index "BedsocksKeepRoadsModel" "hasImage" "Z" ∈ tb) (hdg : decode cc pc = .ok (.getfield index, 3))
    (kk : W p l e R s m args below meth c H locs 0 0 Q (F0 m (pc + 3) ls (.int (FI M j 14) :: rest))) : W p l e R s m args below meth c H locs 0 0 Q (F0 m pc ls (.ref (ad j) :: rest)) :=
  P_get (ci := 6) (k := 14) (N := 37) (T := TX6) C hP hj (ent_6 hk) rfl inT6 (by decide) hlink rfl rfl hdg kk
theorem pf_6_14 (C : CX p s m args meth c cc nL retc own D cy ad zz b n A) (hP : va_P D vwCl (pool cy ad b n M) H) (hD : va_D A (pool cy ad b n M)) (hS : va_S A s.heap H locs) {index j : Nat} {x : Int32} (hj : inP b n j) (hk : kd j = 6) (hz : narrow .boolean (.int x) = .int x) (hz2 : fits .boolean (.int x) = true) (hlink : Cond.fieldLink own index "BedsocksKeepRoadsModel" "hasImage" "Z" ∈ tb) (hdg : decode cc pc = .ok (.putfield index, 3))
    (kk : ∀ (H : Heap) (locs : List Loc), va_P D vwCl (pool cy ad b n (sFI M j 14 x)) H → va_D A (pool cy ad b n (sFI M j 14 x)) → va_S A s.heap H locs → W p l e R s m args below meth c H locs 0 0 Q (F0 m (pc + 3) ls rest)) : W p l e R s m args below meth c H locs 0 0 Q (F0 m pc ls (.int x :: .ref (ad j) :: rest)) :=
  P_put (ci := 6) (k := 14) (N := 37) (T := TX6) (ty := tyX6) (M' := (sFI M j 14 x)) C hP hD hS hj (ent_6 hk) rfl inT6 tyX6_ok nmX6 (by decide) hlink rfl rfl hz hz2 (show 14 < 37 from by decide) (by rw [ent_6 hk]; simp [sFI, sFJ, FI, FJ, RF, up2, List.set]) eo_FI hdg kk
theorem gf_6_15 (C : CX p s m args meth c cc nL retc own D cy ad zz b n A) (hP : va_P D vwCl (pool cy ad b n M) H) {index j : Nat} (hj : inP b n j) (hk : kd j = 6) (hlink : Cond.fieldLink own index "BedsocksKeepRoadsModel" "imageRows" "[I" ∈ tb) (hdg : decode cc pc = .ok (.getfield index, 3))
    (kk : W p l e R s m args below meth c H locs 0 0 Q (F0 m (pc + 3) ls (.ref (ad 109) :: rest))) : W p l e R s m args below meth c H locs 0 0 Q (F0 m pc ls (.ref (ad j) :: rest)) :=
  P_get (ci := 6) (k := 15) (N := 37) (T := TX6) C hP hj (ent_6 hk) rfl inT6 (by decide) hlink rfl rfl hdg kk
theorem gf_6_16 (C : CX p s m args meth c cc nL retc own D cy ad zz b n A) (hP : va_P D vwCl (pool cy ad b n M) H) {index j : Nat} (hj : inP b n j) (hk : kd j = 6) (hlink : Cond.fieldLink own index "BedsocksKeepRoadsModel" "imageWater" "J" ∈ tb) (hdg : decode cc pc = .ok (.getfield index, 3))
    (kk : W p l e R s m args below meth c H locs 0 0 Q (F0 m (pc + 3) ls (.long (FJ M j 16) :: rest))) : W p l e R s m args below meth c H locs 0 0 Q (F0 m pc ls (.ref (ad j) :: rest)) :=
  P_get (ci := 6) (k := 16) (N := 37) (T := TX6) C hP hj (ent_6 hk) rfl inT6 (by decide) hlink rfl rfl hdg kk
theorem pf_6_16 (C : CX p s m args meth c cc nL retc own D cy ad zz b n A) (hP : va_P D vwCl (pool cy ad b n M) H) (hD : va_D A (pool cy ad b n M)) (hS : va_S A s.heap H locs) {index j : Nat} {x : Int64} (hj : inP b n j) (hk : kd j = 6) (hlink : Cond.fieldLink own index "BedsocksKeepRoadsModel" "imageWater" "J" ∈ tb) (hdg : decode cc pc = .ok (.putfield index, 3))
    (kk : ∀ (H : Heap) (locs : List Loc), va_P D vwCl (pool cy ad b n (sFJ M j 16 x)) H → va_D A (pool cy ad b n (sFJ M j 16 x)) → va_S A s.heap H locs → W p l e R s m args below meth c H locs 0 0 Q (F0 m (pc + 3) ls rest)) : W p l e R s m args below meth c H locs 0 0 Q (F0 m pc ls (.long x :: .ref (ad j) :: rest)) :=
  P_put (ci := 6) (k := 16) (N := 37) (T := TX6) (ty := tyX6) (M' := (sFJ M j 16 x)) C hP hD hS hj (ent_6 hk) rfl inT6 tyX6_ok nmX6 (by decide) hlink rfl rfl rfl rfl (show 16 < 37 from by decide) (by rw [ent_6 hk]; simp [sFI, sFJ, FI, FJ, RF, up2, List.set]) eo_FJ hdg kk
theorem gf_6_17 (C : CX p s m args meth c cc nL retc own D cy ad zz b n A) (hP : va_P D vwCl (pool cy ad b n M) H) {index j : Nat} (hj : inP b n j) (hk : kd j = 6) (hlink : Cond.fieldLink own index "BedsocksKeepRoadsModel" "imageHeld" "[I" ∈ tb) (hdg : decode cc pc = .ok (.getfield index, 3))
    (kk : W p l e R s m args below meth c H locs 0 0 Q (F0 m (pc + 3) ls (.ref (ad 110) :: rest))) : W p l e R s m args below meth c H locs 0 0 Q (F0 m pc ls (.ref (ad j) :: rest)) :=
  P_get (ci := 6) (k := 17) (N := 37) (T := TX6) C hP hj (ent_6 hk) rfl inT6 (by decide) hlink rfl rfl hdg kk
theorem gf_6_18 (C : CX p s m args meth c cc nL retc own D cy ad zz b n A) (hP : va_P D vwCl (pool cy ad b n M) H) {index j : Nat} (hj : inP b n j) (hk : kd j = 6) (hlink : Cond.fieldLink own index "BedsocksKeepRoadsModel" "sheetSort" "[I" ∈ tb) (hdg : decode cc pc = .ok (.getfield index, 3))
    (kk : W p l e R s m args below meth c H locs 0 0 Q (F0 m (pc + 3) ls (.ref (ad 111) :: rest))) : W p l e R s m args below meth c H locs 0 0 Q (F0 m pc ls (.ref (ad j) :: rest)) :=
  P_get (ci := 6) (k := 18) (N := 37) (T := TX6) C hP hj (ent_6 hk) rfl inT6 (by decide) hlink rfl rfl hdg kk
theorem gf_6_19 (C : CX p s m args meth c cc nL retc own D cy ad zz b n A) (hP : va_P D vwCl (pool cy ad b n M) H) {index j : Nat} (hj : inP b n j) (hk : kd j = 6) (hlink : Cond.fieldLink own index "BedsocksKeepRoadsModel" "sheetSize" "[I" ∈ tb) (hdg : decode cc pc = .ok (.getfield index, 3))
    (kk : W p l e R s m args below meth c H locs 0 0 Q (F0 m (pc + 3) ls (.ref (ad 112) :: rest))) : W p l e R s m args below meth c H locs 0 0 Q (F0 m pc ls (.ref (ad j) :: rest)) :=
  P_get (ci := 6) (k := 19) (N := 37) (T := TX6) C hP hj (ent_6 hk) rfl inT6 (by decide) hlink rfl rfl hdg kk
theorem gf_6_20 (C : CX p s m args meth c cc nL retc own D cy ad zz b n A) (hP : va_P D vwCl (pool cy ad b n M) H) {index j : Nat} (hj : inP b n j) (hk : kd j = 6) (hlink : Cond.fieldLink own index "BedsocksKeepRoadsModel" "cells" "[I" ∈ tb) (hdg : decode cc pc = .ok (.getfield index, 3))
    (kk : W p l e R s m args below meth c H locs 0 0 Q (F0 m (pc + 3) ls (.ref (ad 113) :: rest))) : W p l e R s m args below meth c H locs 0 0 Q (F0 m pc ls (.ref (ad j) :: rest)) :=
  P_get (ci := 6) (k := 20) (N := 37) (T := TX6) C hP hj (ent_6 hk) rfl inT6 (by decide) hlink rfl rfl hdg kk
theorem gf_6_21 (C : CX p s m args meth c cc nL retc own D cy ad zz b n A) (hP : va_P D vwCl (pool cy ad b n M) H) {index j : Nat} (hj : inP b n j) (hk : kd j = 6) (hlink : Cond.fieldLink own index "BedsocksKeepRoadsModel" "law" "[I" ∈ tb) (hdg : decode cc pc = .ok (.getfield index, 3))
    (kk : W p l e R s m args below meth c H locs 0 0 Q (F0 m (pc + 3) ls (.ref (ad 114) :: rest))) : W p l e R s m args below meth c H locs 0 0 Q (F0 m pc ls (.ref (ad j) :: rest)) :=
  P_get (ci := 6) (k := 21) (N := 37) (T := TX6) C hP hj (ent_6 hk) rfl inT6 (by decide) hlink rfl rfl hdg kk
theorem gf_6_22 (C : CX p s m args meth c cc nL retc own D cy ad zz b n A) (hP : va_P D vwCl (pool cy ad b n M) H) {index j : Nat} (hj : inP b n j) (hk : kd j = 6) (hlink : Cond.fieldLink own index "BedsocksKeepRoadsModel" "at" "I" ∈ tb) (hdg : decode cc pc = .ok (.getfield index, 3))
    (kk : W p l e R s m args below meth c H locs 0 0 Q (F0 m (pc + 3) ls (.int (FI M j 22) :: rest))) : W p l e R s m args below meth c H locs 0 0 Q (F0 m pc ls (.ref (ad j) :: rest)) :=
  P_get (ci := 6) (k := 22) (N := 37) (T := TX6) C hP hj (ent_6 hk) rfl inT6 (by decide) hlink rfl rfl hdg kk
theorem pf_6_22 (C : CX p s m args meth c cc nL retc own D cy ad zz b n A) (hP : va_P D vwCl (pool cy ad b n M) H) (hD : va_D A (pool cy ad b n M)) (hS : va_S A s.heap H locs) {index j : Nat} {x : Int32} (hj : inP b n j) (hk : kd j = 6) (hlink : Cond.fieldLink own index "BedsocksKeepRoadsModel" "at" "I" ∈ tb) (hdg : decode cc pc = .ok (.putfield index, 3))
    (kk : ∀ (H : Heap) (locs : List Loc), va_P D vwCl (pool cy ad b n (sFI M j 22 x)) H → va_D A (pool cy ad b n (sFI M j 22 x)) → va_S A s.heap H locs → W p l e R s m args below meth c H locs 0 0 Q (F0 m (pc + 3) ls rest)) : W p l e R s m args below meth c H locs 0 0 Q (F0 m pc ls (.int x :: .ref (ad j) :: rest)) :=
  P_put (ci := 6) (k := 22) (N := 37) (T := TX6) (ty := tyX6) (M' := (sFI M j 22 x)) C hP hD hS hj (ent_6 hk) rfl inT6 tyX6_ok nmX6 (by decide) hlink rfl rfl rfl rfl (show 22 < 37 from by decide) (by rw [ent_6 hk]; simp [sFI, sFJ, FI, FJ, RF, up2, List.set]) eo_FI hdg kk
theorem gf_6_23 (C : CX p s m args meth c cc nL retc own D cy ad zz b n A) (hP : va_P D vwCl (pool cy ad b n M) H) {index j : Nat} (hj : inP b n j) (hk : kd j = 6) (hlink : Cond.fieldLink own index "BedsocksKeepRoadsModel" "begun" "I" ∈ tb) (hdg : decode cc pc = .ok (.getfield index, 3))
    (kk : W p l e R s m args below meth c H locs 0 0 Q (F0 m (pc + 3) ls (.int (FI M j 23) :: rest))) : W p l e R s m args below meth c H locs 0 0 Q (F0 m pc ls (.ref (ad j) :: rest)) :=
  P_get (ci := 6) (k := 23) (N := 37) (T := TX6) C hP hj (ent_6 hk) rfl inT6 (by decide) hlink rfl rfl hdg kk
theorem pf_6_23 (C : CX p s m args meth c cc nL retc own D cy ad zz b n A) (hP : va_P D vwCl (pool cy ad b n M) H) (hD : va_D A (pool cy ad b n M)) (hS : va_S A s.heap H locs) {index j : Nat} {x : Int32} (hj : inP b n j) (hk : kd j = 6) (hlink : Cond.fieldLink own index "BedsocksKeepRoadsModel" "begun" "I" ∈ tb) (hdg : decode cc pc = .ok (.putfield index, 3))
    (kk : ∀ (H : Heap) (locs : List Loc), va_P D vwCl (pool cy ad b n (sFI M j 23 x)) H → va_D A (pool cy ad b n (sFI M j 23 x)) → va_S A s.heap H locs → W p l e R s m args below meth c H locs 0 0 Q (F0 m (pc + 3) ls rest)) : W p l e R s m args below meth c H locs 0 0 Q (F0 m pc ls (.int x :: .ref (ad j) :: rest)) :=
  P_put (ci := 6) (k := 23) (N := 37) (T := TX6) (ty := tyX6) (M' := (sFI M j 23 x)) C hP hD hS hj (ent_6 hk) rfl inT6 tyX6_ok nmX6 (by decide) hlink rfl rfl rfl rfl (show 23 < 37 from by decide) (by rw [ent_6 hk]; simp [sFI, sFJ, FI, FJ, RF, up2, List.set]) eo_FI hdg kk
theorem gf_6_24 (C : CX p s m args meth c cc nL retc own D cy ad zz b n A) (hP : va_P D vwCl (pool cy ad b n M) H) {index j : Nat} (hj : inP b n j) (hk : kd j = 6) (hlink : Cond.fieldLink own index "BedsocksKeepRoadsModel" "token" "I" ∈ tb) (hdg : decode cc pc = .ok (.getfield index, 3))
    (kk : W p l e R s m args below meth c H locs 0 0 Q (F0 m (pc + 3) ls (.int (FI M j 24) :: rest))) : W p l e R s m args below meth c H locs 0 0 Q (F0 m pc ls (.ref (ad j) :: rest)) :=
  P_get (ci := 6) (k := 24) (N := 37) (T := TX6) C hP hj (ent_6 hk) rfl inT6 (by decide) hlink rfl rfl hdg kk
theorem pf_6_24 (C : CX p s m args meth c cc nL retc own D cy ad zz b n A) (hP : va_P D vwCl (pool cy ad b n M) H) (hD : va_D A (pool cy ad b n M)) (hS : va_S A s.heap H locs) {index j : Nat} {x : Int32} (hj : inP b n j) (hk : kd j = 6) (hlink : Cond.fieldLink own index "BedsocksKeepRoadsModel" "token" "I" ∈ tb) (hdg : decode cc pc = .ok (.putfield index, 3))
    (kk : ∀ (H : Heap) (locs : List Loc), va_P D vwCl (pool cy ad b n (sFI M j 24 x)) H → va_D A (pool cy ad b n (sFI M j 24 x)) → va_S A s.heap H locs → W p l e R s m args below meth c H locs 0 0 Q (F0 m (pc + 3) ls rest)) : W p l e R s m args below meth c H locs 0 0 Q (F0 m pc ls (.int x :: .ref (ad j) :: rest)) :=
  P_put (ci := 6) (k := 24) (N := 37) (T := TX6) (ty := tyX6) (M' := (sFI M j 24 x)) C hP hD hS hj (ent_6 hk) rfl inT6 tyX6_ok nmX6 (by decide) hlink rfl rfl rfl rfl (show 24 < 37 from by decide) (by rw [ent_6 hk]; simp [sFI, sFJ, FI, FJ, RF, up2, List.set]) eo_FI hdg kk
theorem gf_6_25 (C : CX p s m args meth c cc nL retc own D cy ad zz b n A) (hP : va_P D vwCl (pool cy ad b n M) H) {index j : Nat} (hj : inP b n j) (hk : kd j = 6) (hlink : Cond.fieldLink own index "BedsocksKeepRoadsModel" "value" "I" ∈ tb) (hdg : decode cc pc = .ok (.getfield index, 3))
    (kk : W p l e R s m args below meth c H locs 0 0 Q (F0 m (pc + 3) ls (.int (FI M j 25) :: rest))) : W p l e R s m args below meth c H locs 0 0 Q (F0 m pc ls (.ref (ad j) :: rest)) :=
  P_get (ci := 6) (k := 25) (N := 37) (T := TX6) C hP hj (ent_6 hk) rfl inT6 (by decide) hlink rfl rfl hdg kk
theorem pf_6_25 (C : CX p s m args meth c cc nL retc own D cy ad zz b n A) (hP : va_P D vwCl (pool cy ad b n M) H) (hD : va_D A (pool cy ad b n M)) (hS : va_S A s.heap H locs) {index j : Nat} {x : Int32} (hj : inP b n j) (hk : kd j = 6) (hlink : Cond.fieldLink own index "BedsocksKeepRoadsModel" "value" "I" ∈ tb) (hdg : decode cc pc = .ok (.putfield index, 3))
    (kk : ∀ (H : Heap) (locs : List Loc), va_P D vwCl (pool cy ad b n (sFI M j 25 x)) H → va_D A (pool cy ad b n (sFI M j 25 x)) → va_S A s.heap H locs → W p l e R s m args below meth c H locs 0 0 Q (F0 m (pc + 3) ls rest)) : W p l e R s m args below meth c H locs 0 0 Q (F0 m pc ls (.int x :: .ref (ad j) :: rest)) :=
  P_put (ci := 6) (k := 25) (N := 37) (T := TX6) (ty := tyX6) (M' := (sFI M j 25 x)) C hP hD hS hj (ent_6 hk) rfl inT6 tyX6_ok nmX6 (by decide) hlink rfl rfl rfl rfl (show 25 < 37 from by decide) (by rw [ent_6 hk]; simp [sFI, sFJ, FI, FJ, RF, up2, List.set]) eo_FI hdg kk
theorem gf_6_26 (C : CX p s m args meth c cc nL retc own D cy ad zz b n A) (hP : va_P D vwCl (pool cy ad b n M) H) {index j : Nat} (hj : inP b n j) (hk : kd j = 6) (hlink : Cond.fieldLink own index "BedsocksKeepRoadsModel" "words" "[I" ∈ tb) (hdg : decode cc pc = .ok (.getfield index, 3))
    (kk : W p l e R s m args below meth c H locs 0 0 Q (F0 m (pc + 3) ls (.ref (ad 115) :: rest))) : W p l e R s m args below meth c H locs 0 0 Q (F0 m pc ls (.ref (ad j) :: rest)) :=
  P_get (ci := 6) (k := 26) (N := 37) (T := TX6) C hP hj (ent_6 hk) rfl inT6 (by decide) hlink rfl rfl hdg kk
theorem gf_6_27 (C : CX p s m args meth c cc nL retc own D cy ad zz b n A) (hP : va_P D vwCl (pool cy ad b n M) H) {index j : Nat} (hj : inP b n j) (hk : kd j = 6) (hlink : Cond.fieldLink own index "BedsocksKeepRoadsModel" "held" "[I" ∈ tb) (hdg : decode cc pc = .ok (.getfield index, 3))
    (kk : W p l e R s m args below meth c H locs 0 0 Q (F0 m (pc + 3) ls (.ref (ad 116) :: rest))) : W p l e R s m args below meth c H locs 0 0 Q (F0 m pc ls (.ref (ad j) :: rest)) :=
  P_get (ci := 6) (k := 27) (N := 37) (T := TX6) C hP hj (ent_6 hk) rfl inT6 (by decide) hlink rfl rfl hdg kk
theorem gf_6_28 (C : CX p s m args meth c cc nL retc own D cy ad zz b n A) (hP : va_P D vwCl (pool cy ad b n M) H) {index j : Nat} (hj : inP b n j) (hk : kd j = 6) (hlink : Cond.fieldLink own index "BedsocksKeepRoadsModel" "heldMany" "I" ∈ tb) (hdg : decode cc pc = .ok (.getfield index, 3))
    (kk : W p l e R s m args below meth c H locs 0 0 Q (F0 m (pc + 3) ls (.int (FI M j 28) :: rest))) : W p l e R s m args below meth c H locs 0 0 Q (F0 m pc ls (.ref (ad j) :: rest)) :=
  P_get (ci := 6) (k := 28) (N := 37) (T := TX6) C hP hj (ent_6 hk) rfl inT6 (by decide) hlink rfl rfl hdg kk
theorem pf_6_28 (C : CX p s m args meth c cc nL retc own D cy ad zz b n A) (hP : va_P D vwCl (pool cy ad b n M) H) (hD : va_D A (pool cy ad b n M)) (hS : va_S A s.heap H locs) {index j : Nat} {x : Int32} (hj : inP b n j) (hk : kd j = 6) (hlink : Cond.fieldLink own index "BedsocksKeepRoadsModel" "heldMany" "I" ∈ tb) (hdg : decode cc pc = .ok (.putfield index, 3))
    (kk : ∀ (H : Heap) (locs : List Loc), va_P D vwCl (pool cy ad b n (sFI M j 28 x)) H → va_D A (pool cy ad b n (sFI M j 28 x)) → va_S A s.heap H locs → W p l e R s m args below meth c H locs 0 0 Q (F0 m (pc + 3) ls rest)) : W p l e R s m args below meth c H locs 0 0 Q (F0 m pc ls (.int x :: .ref (ad j) :: rest)) :=
  P_put (ci := 6) (k := 28) (N := 37) (T := TX6) (ty := tyX6) (M' := (sFI M j 28 x)) C hP hD hS hj (ent_6 hk) rfl inT6 tyX6_ok nmX6 (by decide) hlink rfl rfl rfl rfl (show 28 < 37 from by decide) (by rw [ent_6 hk]; simp [sFI, sFJ, FI, FJ, RF, up2, List.set]) eo_FI hdg kk
theorem gf_6_29 (C : CX p s m args meth c cc nL retc own D cy ad zz b n A) (hP : va_P D vwCl (pool cy ad b n M) H) {index j : Nat} (hj : inP b n j) (hk : kd j = 6) (hlink : Cond.fieldLink own index "BedsocksKeepRoadsModel" "opens" "I" ∈ tb) (hdg : decode cc pc = .ok (.getfield index, 3))
    (kk : W p l e R s m args below meth c H locs 0 0 Q (F0 m (pc + 3) ls (.int (FI M j 29) :: rest))) : W p l e R s m args below meth c H locs 0 0 Q (F0 m pc ls (.ref (ad j) :: rest)) :=
  P_get (ci := 6) (k := 29) (N := 37) (T := TX6) C hP hj (ent_6 hk) rfl inT6 (by decide) hlink rfl rfl hdg kk
theorem pf_6_29 (C : CX p s m args meth c cc nL retc own D cy ad zz b n A) (hP : va_P D vwCl (pool cy ad b n M) H) (hD : va_D A (pool cy ad b n M)) (hS : va_S A s.heap H locs) {index j : Nat} {x : Int32} (hj : inP b n j) (hk : kd j = 6) (hlink : Cond.fieldLink own index "BedsocksKeepRoadsModel" "opens" "I" ∈ tb) (hdg : decode cc pc = .ok (.putfield index, 3))
    (kk : ∀ (H : Heap) (locs : List Loc), va_P D vwCl (pool cy ad b n (sFI M j 29 x)) H → va_D A (pool cy ad b n (sFI M j 29 x)) → va_S A s.heap H locs → W p l e R s m args below meth c H locs 0 0 Q (F0 m (pc + 3) ls rest)) : W p l e R s m args below meth c H locs 0 0 Q (F0 m pc ls (.int x :: .ref (ad j) :: rest)) :=
  P_put (ci := 6) (k := 29) (N := 37) (T := TX6) (ty := tyX6) (M' := (sFI M j 29 x)) C hP hD hS hj (ent_6 hk) rfl inT6 tyX6_ok nmX6 (by decide) hlink rfl rfl rfl rfl (show 29 < 37 from by decide) (by rw [ent_6 hk]; simp [sFI, sFJ, FI, FJ, RF, up2, List.set]) eo_FI hdg kk
theorem gf_6_30 (C : CX p s m args meth c cc nL retc own D cy ad zz b n A) (hP : va_P D vwCl (pool cy ad b n M) H) {index j : Nat} (hj : inP b n j) (hk : kd j = 6) (hlink : Cond.fieldLink own index "BedsocksKeepRoadsModel" "out" "I" ∈ tb) (hdg : decode cc pc = .ok (.getfield index, 3))
    (kk : W p l e R s m args below meth c H locs 0 0 Q (F0 m (pc + 3) ls (.int (FI M j 30) :: rest))) : W p l e R s m args below meth c H locs 0 0 Q (F0 m pc ls (.ref (ad j) :: rest)) :=
  P_get (ci := 6) (k := 30) (N := 37) (T := TX6) C hP hj (ent_6 hk) rfl inT6 (by decide) hlink rfl rfl hdg kk
theorem pf_6_30 (C : CX p s m args meth c cc nL retc own D cy ad zz b n A) (hP : va_P D vwCl (pool cy ad b n M) H) (hD : va_D A (pool cy ad b n M)) (hS : va_S A s.heap H locs) {index j : Nat} {x : Int32} (hj : inP b n j) (hk : kd j = 6) (hlink : Cond.fieldLink own index "BedsocksKeepRoadsModel" "out" "I" ∈ tb) (hdg : decode cc pc = .ok (.putfield index, 3))
    (kk : ∀ (H : Heap) (locs : List Loc), va_P D vwCl (pool cy ad b n (sFI M j 30 x)) H → va_D A (pool cy ad b n (sFI M j 30 x)) → va_S A s.heap H locs → W p l e R s m args below meth c H locs 0 0 Q (F0 m (pc + 3) ls rest)) : W p l e R s m args below meth c H locs 0 0 Q (F0 m pc ls (.int x :: .ref (ad j) :: rest)) :=
  P_put (ci := 6) (k := 30) (N := 37) (T := TX6) (ty := tyX6) (M' := (sFI M j 30 x)) C hP hD hS hj (ent_6 hk) rfl inT6 tyX6_ok nmX6 (by decide) hlink rfl rfl rfl rfl (show 30 < 37 from by decide) (by rw [ent_6 hk]; simp [sFI, sFJ, FI, FJ, RF, up2, List.set]) eo_FI hdg kk
theorem gf_6_31 (C : CX p s m args meth c cc nL retc own D cy ad zz b n A) (hP : va_P D vwCl (pool cy ad b n M) H) {index j : Nat} (hj : inP b n j) (hk : kd j = 6) (hlink : Cond.fieldLink own index "BedsocksKeepRoadsModel" "stack" "[I" ∈ tb) (hdg : decode cc pc = .ok (.getfield index, 3))
    (kk : W p l e R s m args below meth c H locs 0 0 Q (F0 m (pc + 3) ls (.ref (ad 117) :: rest))) : W p l e R s m args below meth c H locs 0 0 Q (F0 m pc ls (.ref (ad j) :: rest)) :=
  P_get (ci := 6) (k := 31) (N := 37) (T := TX6) C hP hj (ent_6 hk) rfl inT6 (by decide) hlink rfl rfl hdg kk
theorem gf_6_32 (C : CX p s m args meth c cc nL retc own D cy ad zz b n A) (hP : va_P D vwCl (pool cy ad b n M) H) {index j : Nat} (hj : inP b n j) (hk : kd j = 6) (hlink : Cond.fieldLink own index "BedsocksKeepRoadsModel" "named" "[I" ∈ tb) (hdg : decode cc pc = .ok (.getfield index, 3))
    (kk : W p l e R s m args below meth c H locs 0 0 Q (F0 m (pc + 3) ls (.ref (ad 118) :: rest))) : W p l e R s m args below meth c H locs 0 0 Q (F0 m pc ls (.ref (ad j) :: rest)) :=
  P_get (ci := 6) (k := 32) (N := 37) (T := TX6) C hP hj (ent_6 hk) rfl inT6 (by decide) hlink rfl rfl hdg kk
theorem gf_6_33 (C : CX p s m args meth c cc nL retc own D cy ad zz b n A) (hP : va_P D vwCl (pool cy ad b n M) H) {index j : Nat} (hj : inP b n j) (hk : kd j = 6) (hlink : Cond.fieldLink own index "BedsocksKeepRoadsModel" "cameTo" "[J" ∈ tb) (hdg : decode cc pc = .ok (.getfield index, 3))
    (kk : W p l e R s m args below meth c H locs 0 0 Q (F0 m (pc + 3) ls (.ref (ad 119) :: rest))) : W p l e R s m args below meth c H locs 0 0 Q (F0 m pc ls (.ref (ad j) :: rest)) :=
  P_get (ci := 6) (k := 33) (N := 37) (T := TX6) C hP hj (ent_6 hk) rfl inT6 (by decide) hlink rfl rfl hdg kk
theorem gf_6_34 (C : CX p s m args meth c cc nL retc own D cy ad zz b n A) (hP : va_P D vwCl (pool cy ad b n M) H) {index j : Nat} (hj : inP b n j) (hk : kd j = 6) (hlink : Cond.fieldLink own index "BedsocksKeepRoadsModel" "miles" "I" ∈ tb) (hdg : decode cc pc = .ok (.getfield index, 3))
    (kk : W p l e R s m args below meth c H locs 0 0 Q (F0 m (pc + 3) ls (.int (FI M j 34) :: rest))) : W p l e R s m args below meth c H locs 0 0 Q (F0 m pc ls (.ref (ad j) :: rest)) :=
  P_get (ci := 6) (k := 34) (N := 37) (T := TX6) C hP hj (ent_6 hk) rfl inT6 (by decide) hlink rfl rfl hdg kk
theorem pf_6_34 (C : CX p s m args meth c cc nL retc own D cy ad zz b n A) (hP : va_P D vwCl (pool cy ad b n M) H) (hD : va_D A (pool cy ad b n M)) (hS : va_S A s.heap H locs) {index j : Nat} {x : Int32} (hj : inP b n j) (hk : kd j = 6) (hlink : Cond.fieldLink own index "BedsocksKeepRoadsModel" "miles" "I" ∈ tb) (hdg : decode cc pc = .ok (.putfield index, 3))
    (kk : ∀ (H : Heap) (locs : List Loc), va_P D vwCl (pool cy ad b n (sFI M j 34 x)) H → va_D A (pool cy ad b n (sFI M j 34 x)) → va_S A s.heap H locs → W p l e R s m args below meth c H locs 0 0 Q (F0 m (pc + 3) ls rest)) : W p l e R s m args below meth c H locs 0 0 Q (F0 m pc ls (.int x :: .ref (ad j) :: rest)) :=
  P_put (ci := 6) (k := 34) (N := 37) (T := TX6) (ty := tyX6) (M' := (sFI M j 34 x)) C hP hD hS hj (ent_6 hk) rfl inT6 tyX6_ok nmX6 (by decide) hlink rfl rfl rfl rfl (show 34 < 37 from by decide) (by rw [ent_6 hk]; simp [sFI, sFJ, FI, FJ, RF, up2, List.set]) eo_FI hdg kk
theorem gf_6_35 (C : CX p s m args meth c cc nL retc own D cy ad zz b n A) (hP : va_P D vwCl (pool cy ad b n M) H) {index j : Nat} (hj : inP b n j) (hk : kd j = 6) (hlink : Cond.fieldLink own index "BedsocksKeepRoadsModel" "kept" "[I" ∈ tb) (hdg : decode cc pc = .ok (.getfield index, 3))
    (kk : W p l e R s m args below meth c H locs 0 0 Q (F0 m (pc + 3) ls (.ref (ad 120) :: rest))) : W p l e R s m args below meth c H locs 0 0 Q (F0 m pc ls (.ref (ad j) :: rest)) :=
  P_get (ci := 6) (k := 35) (N := 37) (T := TX6) C hP hj (ent_6 hk) rfl inT6 (by decide) hlink rfl rfl hdg kk
theorem gf_6_36 (C : CX p s m args meth c cc nL retc own D cy ad zz b n A) (hP : va_P D vwCl (pool cy ad b n M) H) {index j : Nat} (hj : inP b n j) (hk : kd j = 6) (hlink : Cond.fieldLink own index "BedsocksKeepRoadsModel" "twosThen" "I" ∈ tb) (hdg : decode cc pc = .ok (.getfield index, 3))
    (kk : W p l e R s m args below meth c H locs 0 0 Q (F0 m (pc + 3) ls (.int (FI M j 36) :: rest))) : W p l e R s m args below meth c H locs 0 0 Q (F0 m pc ls (.ref (ad j) :: rest)) :=
  P_get (ci := 6) (k := 36) (N := 37) (T := TX6) C hP hj (ent_6 hk) rfl inT6 (by decide) hlink rfl rfl hdg kk
theorem pf_6_36 (C : CX p s m args meth c cc nL retc own D cy ad zz b n A) (hP : va_P D vwCl (pool cy ad b n M) H) (hD : va_D A (pool cy ad b n M)) (hS : va_S A s.heap H locs) {index j : Nat} {x : Int32} (hj : inP b n j) (hk : kd j = 6) (hlink : Cond.fieldLink own index "BedsocksKeepRoadsModel" "twosThen" "I" ∈ tb) (hdg : decode cc pc = .ok (.putfield index, 3))
    (kk : ∀ (H : Heap) (locs : List Loc), va_P D vwCl (pool cy ad b n (sFI M j 36 x)) H → va_D A (pool cy ad b n (sFI M j 36 x)) → va_S A s.heap H locs → W p l e R s m args below meth c H locs 0 0 Q (F0 m (pc + 3) ls rest)) : W p l e R s m args below meth c H locs 0 0 Q (F0 m pc ls (.int x :: .ref (ad j) :: rest)) :=
  P_put (ci := 6) (k := 36) (N := 37) (T := TX6) (ty := tyX6) (M' := (sFI M j 36 x)) C hP hD hS hj (ent_6 hk) rfl inT6 tyX6_ok nmX6 (by decide) hlink rfl rfl rfl rfl (show 36 < 37 from by decide) (by rw [ent_6 hk]; simp [sFI, sFJ, FI, FJ, RF, up2, List.set]) eo_FI hdg kk
def inb (i : Int32) (n : Nat) : Bool := decide (0 ≤ i) && decide (i.toNatClampNeg < n)
theorem inb_in {i : Int32} {n : Nat} (h : inb i n = true) : vp_in i n := by
  simp only [inb, Bool.and_eq_true, decide_eq_true_eq] at h
  rintro (q | q)
  · exact Int32.lt_irrefl (Int32.lt_of_le_of_lt h.1 q)
  · omega
theorem ia_ld (C : CX p s m args meth c cc nL retc own D cy ad zz b n A) (hP : va_P D vwCl (pool cy ad b n M) H) {j : Nat} {i : Int32} (hj : inP b n j) (hk : kd j = 7) (hi : inb i (len j) = true) (hdg : decode cc pc = .ok (.iaload, 1))
    (kk : W p l e R s m args below meth c H locs 0 0 Q (F0 m (pc + 1) ls (.int (AI M j i.toNatClampNeg) :: rest))) : W p l e R s m args below meth c H locs 0 0 Q (F0 m pc ls (.int i :: .ref (ad j) :: rest)) := by
  obtain ⟨hx, hb, hml, hown, hts, hr, hlk, hK, hN, hA, hX⟩ := C
  exact va_iald hx hb hK hP (j - b) 0 (by rw [← ent_7 (cy := cy) (ad := ad) (M := M) hk]; exact pool_at hj) rfl (inb_in hi) hdg kk
theorem la_ld (C : CX p s m args meth c cc nL retc own D cy ad zz b n A) (hP : va_P D vwCl (pool cy ad b n M) H) {j : Nat} {i : Int32} (hj : inP b n j) (hk : kd j = 8) (hi : inb i (len j) = true) (hdg : decode cc pc = .ok (.laload, 1))
    (kk : W p l e R s m args below meth c H locs 0 0 Q (F0 m (pc + 1) ls (.long (AJ M j i.toNatClampNeg) :: rest))) : W p l e R s m args below meth c H locs 0 0 Q (F0 m pc ls (.int i :: .ref (ad j) :: rest)) := by
  obtain ⟨hx, hb, hml, hown, hts, hr, hlk, hK, hN, hA, hX⟩ := C
  exact va_lald hx hb hK hP (j - b) 1 (by rw [← ent_8 (cy := cy) (ad := ad) (M := M) hk]; exact pool_at hj) rfl (inb_in hi) hdg kk
theorem ia_st (C : CX p s m args meth c cc nL retc own D cy ad zz b n A) (hP : va_P D vwCl (pool cy ad b n M) H) (hD : va_D A (pool cy ad b n M)) (hS : va_S A s.heap H locs) {j : Nat} {i x : Int32} (hj : inP b n j) (hk : kd j = 7) (hi : inb i (len j) = true) (hdg : decode cc pc = .ok (.iastore, 1))
    (kk : ∀ (H : Heap) (locs : List Loc), va_P D vwCl (pool cy ad b n (sAI M j i.toNatClampNeg x)) H → va_D A (pool cy ad b n (sAI M j i.toNatClampNeg x)) → va_S A s.heap H locs → W p l e R s m args below meth c H locs 0 0 Q (F0 m (pc + 1) ls rest)) : W p l e R s m args below meth c H locs 0 0 Q (F0 m pc ls (.int x :: .int i :: .ref (ad j) :: rest)) := by
  obtain ⟨hx, hb, hml, hown, hts, hr, hlk, hK, hN, hA, hX⟩ := C
  refine va_iast hx hb hK hP hD hS (j - b) 0 (by rw [← ent_7 (cy := cy) (ad := ad) (M := M) hk]; exact pool_at hj) rfl (inb_in hi) hdg (fun H1 locs1 hP1 hD1 hS1 => ?_)
  rw [pool_set (M' := sAI M j i.toNatClampNeg x) hj (by rw [ent_7 hk]; congr 4; funext k; simp [AI_sAI, upd]) eo_AI] at hP1
  exact kk H1 locs1 hP1 (pool_D hD) hS1
theorem la_st (C : CX p s m args meth c cc nL retc own D cy ad zz b n A) (hP : va_P D vwCl (pool cy ad b n M) H) (hD : va_D A (pool cy ad b n M)) (hS : va_S A s.heap H locs) {j : Nat} {i : Int32} {x : Int64} (hj : inP b n j) (hk : kd j = 8) (hi : inb i (len j) = true) (hdg : decode cc pc = .ok (.lastore, 1))
    (kk : ∀ (H : Heap) (locs : List Loc), va_P D vwCl (pool cy ad b n (sAJ M j i.toNatClampNeg x)) H → va_D A (pool cy ad b n (sAJ M j i.toNatClampNeg x)) → va_S A s.heap H locs → W p l e R s m args below meth c H locs 0 0 Q (F0 m (pc + 1) ls rest)) : W p l e R s m args below meth c H locs 0 0 Q (F0 m pc ls (.long x :: .int i :: .ref (ad j) :: rest)) := by
  obtain ⟨hx, hb, hml, hown, hts, hr, hlk, hK, hN, hA, hX⟩ := C
  refine va_last hx hb hK hP hD hS (j - b) 1 (by rw [← ent_8 (cy := cy) (ad := ad) (M := M) hk]; exact pool_at hj) rfl (inb_in hi) hdg (fun H1 locs1 hP1 hD1 hS1 => ?_)
  rw [pool_set (M' := sAJ M j i.toNatClampNeg x) hj (by rw [ent_8 hk]; congr 5; funext k; simp [AJ_sAJ, vp_updL]) eo_AJ] at hP1
  exact kk H1 locs1 hP1 (pool_D hD) hS1
theorem al_7 (C : CX p s m args meth c cc nL retc own D cy ad zz b n A) (hP : va_P D vwCl (pool cy ad b n M) H) {j : Nat} (hj : inP b n j) (hk : kd j = 7) (hdg : decode cc pc = .ok (.arraylength, 1))
    (kk : W p l e R s m args below meth c H locs 0 0 Q (F0 m (pc + 1) ls (.int (nI (len j)) :: rest))) : W p l e R s m args below meth c H locs 0 0 Q (F0 m pc ls (.ref (ad j) :: rest)) := by
  obtain ⟨hx, hb, hml, hown, hts, hr, hlk, hK, hN, hA, hX⟩ := C
  exact va_alen (x := (len j, .inl (AI M j))) hx hb hK hP (j - b) 0 (by rw [← ent_7 (cy := cy) (ad := ad) (M := M) hk]; exact pool_at hj) (ty := .int) rfl rfl hdg kk
theorem ia_cp (C : CX p s m args meth c cc nL retc own D cy ad zz b n A) (hP : va_P D vwCl (pool cy ad b n M) H) (hD : va_D A (pool cy ad b n M)) (hS : va_S A s.heap H locs) {index j0 j1 : Nat} {sp dp x : Int32} (hj0 : inP b n j0) (hk0 : kd j0 = 7) (hj1 : inP b n j1) (hk1 : kd j1 = 7) (hlink : Cond.methodLink own index arraycopyName ∈ tb) (hnat : Cond.native arraycopyName ∈ tb) (hstat : Cond.static arraycopyName ∈ tb) (hini : Cond.initialized "java/lang/System" ∈ tb) (hg : (decide (0 ≤ sp) && decide (0 ≤ dp) && decide (0 ≤ x) && decide (sp.toNatClampNeg + x.toNatClampNeg ≤ len j0) && decide (dp.toNatClampNeg + x.toNatClampNeg ≤ len j1)) = true) (hls : ls.size = nL) (hfr : 1 ≤ R.frames) (hlo : (rest.map fun v => v.category).sum + (nativeFrameWords "java/lang/System" "arraycopy" 5 + 11) ≤ R.locals) (hdg : decode cc pc = .ok (.invokestatic index, 3))
    (kk : ∀ (H : Heap) (locs : List Loc), va_P D vwCl (pool cy ad b n (rAI M j1 (va_cpy (AI M j0) (AI M j1) sp.toNatClampNeg dp.toNatClampNeg x.toNatClampNeg))) H → va_D A (pool cy ad b n (rAI M j1 (va_cpy (AI M j0) (AI M j1) sp.toNatClampNeg dp.toNatClampNeg x.toNatClampNeg))) → va_S A s.heap H locs → W p l e R s m args below meth c H locs 0 0 Q (F0 m (pc + 3) ls rest)) : W p l e R s m args below meth c H locs 0 0 Q (F0 m pc ls (.int x :: .int dp :: .ref (ad j1) :: .int sp :: .ref (ad j0) :: rest)) := by
  obtain ⟨hx, hb, hml, hown, hts, hr, hlk, hK, hN, hA, hX⟩ := C
  simp only [Bool.and_eq_true, decide_eq_true_eq] at hg
  have nn : ∀ z : Int32, 0 ≤ z → ¬ z < 0 := fun z h q => Int32.lt_irrefl (Int32.lt_of_le_of_lt h q)
  refine va_copyi hx hb (hml.trans hls.symm) hown (hts _ hlink) (hts _ hnat) (hts _ hstat) (hts _ hini) hK hP hD hS (j0 - b) (j1 - b) 0 0 (by rw [← ent_7 (cy := cy) (ad := ad) (M := M) hk0]; exact pool_at hj0) (by rw [← ent_7 (cy := cy) (ad := ad) (M := M) hk1]; exact pool_at hj1) rfl rfl rfl (nn _ hg.1.1.1.1) (nn _ hg.1.1.1.2) (nn _ hg.1.1.2) hg.1.2 hg.2 (fun _ _ => rfl) hfr hlo hdg (fun H1 locs1 hP1 hD1 hS1 => ?_)
  rw [pool_set (M' := rAI M j1 (va_cpy (AI M j0) (AI M j1) sp.toNatClampNeg dp.toNatClampNeg x.toNatClampNeg)) hj1 (by rw [ent_7 hk1]; congr 4; funext k; simp [AI_rAI]) eo_rAI] at hP1
  exact kk H1 locs1 hP1 (pool_D hD) hS1
theorem aa_9 (C : CX p s m args meth c cc nL retc own D cy ad zz b n A) (hP : va_P D vwCl (pool cy ad b n M) H) {j : Nat} {i : Int32} (hj : inP b n j) (hk : kd j = 9) (hi : inb i (len j) = true) (hdg : decode cc pc = .ok (.aaload, 1))
    (kk : W p l e R s m args below meth c H locs 0 0 Q (F0 m (pc + 1) ls (.ref (ad (AR j i.toNatClampNeg)) :: rest))) : W p l e R s m args below meth c H locs 0 0 Q (F0 m pc ls (.int i :: .ref (ad j) :: rest)) := by
  obtain ⟨hx, hb, hml, hown, hts, hr, hlk, hK, hN, hA, hX⟩ := C
  exact va_aldq (f := fun k => some (ad (AR j k))) hx hb hK hP (j - b) 2 (by rw [← ent_9 (cy := cy) (ad := ad) (M := M) hk]; exact pool_at hj) rfl (inb_in hi) hdg kk
theorem al_9 (C : CX p s m args meth c cc nL retc own D cy ad zz b n A) (hP : va_P D vwCl (pool cy ad b n M) H) {j : Nat} (hj : inP b n j) (hk : kd j = 9) (hdg : decode cc pc = .ok (.arraylength, 1))
    (kk : W p l e R s m args below meth c H locs 0 0 Q (F0 m (pc + 1) ls (.int (nI (len j)) :: rest))) : W p l e R s m args below meth c H locs 0 0 Q (F0 m pc ls (.ref (ad j) :: rest)) := by
  obtain ⟨hx, hb, hml, hown, hts, hr, hlk, hK, hN, hA, hX⟩ := C
  exact va_alen (x := (len j, .inr (.inr (.inr (.inr (fun k => some (ad (AR j k)))))))) hx hb hK hP (j - b) 2 (by rw [← ent_9 (cy := cy) (ad := ad) (M := M) hk]; exact pool_at hj) rfl rfl hdg kk
theorem aa_10 (C : CX p s m args meth c cc nL retc own D cy ad zz b n A) (hP : va_P D vwCl (pool cy ad b n M) H) {j : Nat} {i : Int32} (hj : inP b n j) (hk : kd j = 10) (hi : inb i (len j) = true) (hdg : decode cc pc = .ok (.aaload, 1))
    (kk : W p l e R s m args below meth c H locs 0 0 Q (F0 m (pc + 1) ls (.ref (ad (AR j i.toNatClampNeg)) :: rest))) : W p l e R s m args below meth c H locs 0 0 Q (F0 m pc ls (.int i :: .ref (ad j) :: rest)) := by
  obtain ⟨hx, hb, hml, hown, hts, hr, hlk, hK, hN, hA, hX⟩ := C
  exact va_aldq (f := fun k => some (ad (AR j k))) hx hb hK hP (j - b) 3 (by rw [← ent_10 (cy := cy) (ad := ad) (M := M) hk]; exact pool_at hj) rfl (inb_in hi) hdg kk
theorem al_10 (C : CX p s m args meth c cc nL retc own D cy ad zz b n A) (hP : va_P D vwCl (pool cy ad b n M) H) {j : Nat} (hj : inP b n j) (hk : kd j = 10) (hdg : decode cc pc = .ok (.arraylength, 1))
    (kk : W p l e R s m args below meth c H locs 0 0 Q (F0 m (pc + 1) ls (.int (nI (len j)) :: rest))) : W p l e R s m args below meth c H locs 0 0 Q (F0 m pc ls (.ref (ad j) :: rest)) := by
  obtain ⟨hx, hb, hml, hown, hts, hr, hlk, hK, hN, hA, hX⟩ := C
  exact va_alen (x := (len j, .inr (.inr (.inr (.inr (fun k => some (ad (AR j k)))))))) hx hb hK hP (j - b) 3 (by rw [← ent_10 (cy := cy) (ad := ad) (M := M) hk]; exact pool_at hj) rfl rfl hdg kk
theorem aa_11 (C : CX p s m args meth c cc nL retc own D cy ad zz b n A) (hP : va_P D vwCl (pool cy ad b n M) H) {j : Nat} {i : Int32} (hj : inP b n j) (hk : kd j = 11) (hi : inb i (len j) = true) (hdg : decode cc pc = .ok (.aaload, 1))
    (kk : W p l e R s m args below meth c H locs 0 0 Q (F0 m (pc + 1) ls (.ref (ad (AR j i.toNatClampNeg)) :: rest))) : W p l e R s m args below meth c H locs 0 0 Q (F0 m pc ls (.int i :: .ref (ad j) :: rest)) := by
  obtain ⟨hx, hb, hml, hown, hts, hr, hlk, hK, hN, hA, hX⟩ := C
  exact va_aldq (f := fun k => some (ad (AR j k))) hx hb hK hP (j - b) 4 (by rw [← ent_11 (cy := cy) (ad := ad) (M := M) hk]; exact pool_at hj) rfl (inb_in hi) hdg kk
theorem al_11 (C : CX p s m args meth c cc nL retc own D cy ad zz b n A) (hP : va_P D vwCl (pool cy ad b n M) H) {j : Nat} (hj : inP b n j) (hk : kd j = 11) (hdg : decode cc pc = .ok (.arraylength, 1))
    (kk : W p l e R s m args below meth c H locs 0 0 Q (F0 m (pc + 1) ls (.int (nI (len j)) :: rest))) : W p l e R s m args below meth c H locs 0 0 Q (F0 m pc ls (.ref (ad j) :: rest)) := by
  obtain ⟨hx, hb, hml, hown, hts, hr, hlk, hK, hN, hA, hX⟩ := C
  exact va_alen (x := (len j, .inr (.inr (.inr (.inr (fun k => some (ad (AR j k)))))))) hx hb hK hP (j - b) 4 (by rw [← ent_11 (cy := cy) (ad := ad) (M := M) hk]; exact pool_at hj) rfl rfl hdg kk
theorem rt_i (C : CX p s m args meth c cc nL (some .int) own D cy ad zz b n A) (hP : va_P D vwCl (pool cy ad b n M) H) (hD : va_D A (pool cy ad b n M)) (hS : va_S A s.heap H locs) {r r' : Int32} {M' : Mem} (hdg : decode cc pc = .ok (.ireturn, 1)) (h : r = r' ∧ M = M') : W p l e R s m args below meth c H locs 0 0 (MQ below (va_Qi (fun (x : Int32) (_ : Unit) => x = r') (fun _ t => PA D cy ad b n A M' t) A) args s 0 0 A) (F0 m pc ls [.int r]) := by
  obtain ⟨hx, hb, hml, hown, hts, hr, hlk, hK, hN, hA, hX⟩ := C
  obtain ⟨rfl, rfl⟩ := h
  exact W.iret hx hb hr (fun t ht hW => ⟨⟨r, (), rfl, rfl, by rw [ht]; exact hP, va_K.moved hW.alike hK, hD⟩, hS.F ht⟩) hS.2.2 hdg
theorem rt_z (C : CX p s m args meth c cc nL (some .boolean) own D cy ad zz b n A) (hP : va_P D vwCl (pool cy ad b n M) H) (hD : va_D A (pool cy ad b n M)) (hS : va_S A s.heap H locs) {r r' : Bool} {M' : Mem} (hdg : decode cc pc = .ok (.ireturn, 1)) (h : r = r' ∧ M = M') : W p l e R s m args below meth c H locs 0 0 (MQ below (va_Qi (fun (x : Int32) (_ : Unit) => x = b2i r') (fun _ t => PA D cy ad b n A M' t) A) args s 0 0 A) (F0 m pc ls [.int (b2i r)]) := by
  obtain ⟨hx, hb, hml, hown, hts, hr, hlk, hK, hN, hA, hX⟩ := C
  obtain ⟨rfl, rfl⟩ := h
  exact W.zret hx hb hr (b2i_nar r) (fun t ht hW => ⟨⟨b2i r, (), rfl, rfl, by rw [ht]; exact hP, va_K.moved hW.alike hK, hD⟩, hS.F ht⟩) hS.2.2 hdg
theorem rt_l (C : CX p s m args meth c cc nL (some .long) own D cy ad zz b n A) (hP : va_P D vwCl (pool cy ad b n M) H) (hD : va_D A (pool cy ad b n M)) (hS : va_S A s.heap H locs) {r r' : Int64} {M' : Mem} (hdg : decode cc pc = .ok (.lreturn, 1)) (h : r = r' ∧ M = M') : W p l e R s m args below meth c H locs 0 0 (MQ below (va_Ql (fun (x : Int64) (_ : Unit) => x = r') (fun _ t => PA D cy ad b n A M' t) A) args s 0 0 A) (F0 m pc ls [.long r]) := by
  obtain ⟨hx, hb, hml, hown, hts, hr, hlk, hK, hN, hA, hX⟩ := C
  obtain ⟨rfl, rfl⟩ := h
  exact W.lret hx hb hr (fun t ht hW => ⟨⟨r, (), rfl, rfl, by rw [ht]; exact hP, va_K.moved hW.alike hK, hD⟩, hS.F ht⟩) hS.2.2 hdg
theorem rt_q {rt : String} (C : CX p s m args meth c cc nL (some (.object rt)) own D cy ad zz b n A) (hP : va_P D vwCl (pool cy ad b n M) H) (hD : va_D A (pool cy ad b n M)) (hS : va_S A s.heap H locs) {r r' : Option Nat} {M' : Mem} (hdg : decode cc pc = .ok (.areturn, 1)) (h : r = r' ∧ M = M') : W p l e R s m args below meth c H locs 0 0 (MQ below (va_Qq (fun (x : Option Nat) (_ : Unit) => x = r'.map ad) (fun _ t => PA D cy ad b n A M' t) A) args s 0 0 A) (F0 m pc ls [va_re ad r]) := by
  obtain ⟨hx, hb, hml, hown, hts, hr, hlk, hK, hN, hA, hX⟩ := C
  obtain ⟨rfl, rfl⟩ := h
  exact W.aret hx hb hr (Or.inl ⟨_, rfl⟩) (by cases r; exact Or.inl rfl; exact Or.inr ⟨_, rfl⟩) (fun t ht hW => ⟨⟨r.map ad, (), rfl, rfl, by rw [ht]; exact hP, va_K.moved hW.alike hK, hD⟩, hS.F ht⟩) hS.2.2 hdg
theorem rt_n {ty : FieldType} (C : CX p s m args meth c cc nL (some ty) own D cy ad zz b n A) (hP : va_P D vwCl (pool cy ad b n M) H) (hD : va_D A (pool cy ad b n M)) (hS : va_S A s.heap H locs) {r r' : Int32} {M' : Mem} (hn : narrow ty (.int r) = .int r) (hdg : decode cc pc = .ok (.ireturn, 1)) (h : r = r' ∧ M = M') : W p l e R s m args below meth c H locs 0 0 (MQ below (va_Qi (fun (x : Int32) (_ : Unit) => x = r') (fun _ t => PA D cy ad b n A M' t) A) args s 0 0 A) (F0 m pc ls [.int r]) := by
  obtain ⟨hx, hb, hml, hown, hts, hr, hlk, hK, hN, hA, hX⟩ := C
  obtain ⟨rfl, rfl⟩ := h
  exact W.zret hx hb hr hn (fun t ht hW => ⟨⟨r, (), rfl, rfl, by rw [ht]; exact hP, va_K.moved hW.alike hK, hD⟩, hS.F ht⟩) hS.2.2 hdg
theorem rt_s {rt : String} (C : CX p s m args meth c cc nL (some (.object rt)) own D cy ad zz b n A) (hP : va_P D vwCl (pool cy ad b n M) H) (hD : va_D A (pool cy ad b n M)) (hS : va_S A s.heap H locs) {r r' : Nat} {M' : Mem} (hdg : decode cc pc = .ok (.areturn, 1)) (h : r = r' ∧ M = M') : W p l e R s m args below meth c H locs 0 0 (MQ below (va_Qq (fun (x : Option Nat) (_ : Unit) => x = some (zz.1 r')) (fun _ t => PA D cy ad b n A M' t) A) args s 0 0 A) (F0 m pc ls [.ref (zz.1 r)]) := by
  obtain ⟨hx, hb, hml, hown, hts, hr, hlk, hK, hN, hA, hX⟩ := C
  obtain ⟨rfl, rfl⟩ := h
  exact W.aret hx hb hr (Or.inl ⟨_, rfl⟩) (Or.inr ⟨_, rfl⟩) (fun t ht hW => ⟨⟨some (zz.1 r), (), rfl, rfl, by rw [ht]; exact hP, va_K.moved hW.alike hK, hD⟩, hS.F ht⟩) hS.2.2 hdg
theorem rt_v (C : CX p s m args meth c cc nL none own D cy ad zz b n A) (hP : va_P D vwCl (pool cy ad b n M) H) (hD : va_D A (pool cy ad b n M)) (hS : va_S A s.heap H locs) {M' : Mem} (hdg : decode cc pc = .ok (.return_, 1)) (h : M = M') : W p l e R s m args below meth c H locs 0 0 (MQ below (va_Qv (fun (_ : Unit) => True) (fun _ t => PA D cy ad b n A M' t) A) args s 0 0 A) (F0 m pc ls []) := by
  obtain ⟨hx, hb, hml, hown, hts, hr, hlk, hK, hN, hA, hX⟩ := C
  subst h
  exact W.vret hx hb hr (fun t ht hW => ⟨⟨(), rfl, trivial, by rw [ht]; exact hP, va_K.moved hW.alike hK, hD⟩, hS.F ht⟩) hS.2.2 hdg
end CXS
