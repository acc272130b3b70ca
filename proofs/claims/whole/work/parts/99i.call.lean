/-! L3: calls over a pool beside other cells; new cells; cells in another order -/
theorem va_D.iff2 {A : Nat → Prop} {ws : va_W} : va_D A ws ↔ (ws.map Prod.fst).Nodup ∧ ∀ a ∈ ws.map Prod.fst, A a := by
  rw [va_D.iff]
  refine and_congr Iff.rfl ⟨fun h a ha => ?_, fun h q hq => h _ (List.mem_map.mpr ⟨q, hq, rfl⟩)⟩
  obtain ⟨q, hq, rfl⟩ := List.mem_map.mp ha
  exact h q hq
theorem pool_fst {cy : Nat → ClassId} {ad : Nat → Nat} {b n : Nat} {M : Mem} : (pool cy ad b n M).map Prod.fst = (List.range n).map (fun i => ad (b + i)) := by
  unfold pool
  rw [List.map_map]
  rfl
theorem pools_D {cy : Nat → ClassId} {ad : Nat → Nat} {b n : Nat} {M M' : Mem} {A : Nat → Prop} {ws : va_W} (h : va_D A (pool cy ad b n M ++ ws)) : va_D A (pool cy ad b n M' ++ ws) := by
  rw [va_D.iff2] at h ⊢
  rw [List.map_append, pool_fst] at h ⊢
  exact h
theorem up_l {w1 w2 : va_W} {k : Nat} {q : Nat × va_E} (h : w1[k]? = some q) : (w1 ++ w2)[k]? = some q := by
  rw [List.getElem?_append_left (List.getElem?_eq_some_iff.mp h).1]
  exact h
theorem up_r {w1 w2 : va_W} {k : Nat} {q : Nat × va_E} (h : w2[k]? = some q) : (w1 ++ w2)[w1.length + k]? = some q := by
  rw [List.getElem?_append_right (Nat.le_add_right _ _), Nat.add_sub_cancel_left]
  exact h
theorem wp_l {D : va_G} {cl : List vw_C} {w1 w2 : va_W} {H : Heap} (h : va_P D cl (w1 ++ w2) H) : va_P D cl w1 H := fun k q hk => h k q (up_l hk)
theorem wp_r {D : va_G} {cl : List vw_C} {w1 w2 : va_W} {H : Heap} (h : va_P D cl (w1 ++ w2) H) : va_P D cl w2 H := fun k q hk => h (w1.length + k) q (up_r hk)
theorem dp_l {A : Nat → Prop} {w1 w2 : va_W} (h : va_D A (w1 ++ w2)) : va_D A w1 := ⟨fun i j p q hi hj e => h.1 i j p q (up_l hi) (up_l hj) e, fun k q hk => h.2 k q (up_l hk)⟩
theorem dp_r {A : Nat → Prop} {w1 w2 : va_W} (h : va_D A (w1 ++ w2)) : va_D A w2 := ⟨fun i j p q hi hj e => by
  have := h.1 _ _ p q (up_r hi) (up_r hj) e
  omega, fun k q hk => h.2 _ q (up_r hk)⟩
theorem dp_x {A : Nat → Prop} {w1 w2 : va_W} (h : va_D A (w1 ++ w2)) {i j : Nat} {p q : Nat × va_E} (hi : w1[i]? = some p) (hj : w2[j]? = some q) : p.1 ≠ q.1 := fun e => by
  have h1 := h.1 _ _ p q (up_l hi) (up_r hj) e
  have h2 := (List.getElem?_eq_some_iff.mp hi).1
  omega
theorem pl_keep {D : va_G} {cy : Nat → ClassId} {ad : Nat → Nat} {b n : Nat} {M M' : Mem} {A : Nat → Prop} {ws : va_W} {H H1 : Heap} (hP : va_P D vwCl (pool cy ad b n M ++ ws) H) (hD : va_D A (pool cy ad b n M ++ ws)) (hk : ∀ q, q < H.size → ¬ pA ad b n H.size q → H1[q]? = H[q]?) (hP1 : va_P D vwCl (pool cy ad b n M') H1) : va_P D vwCl (pool cy ad b n M' ++ ws) H1 := by
  refine hP1.app (fun k q hq => (wp_r hP k q hq).kept (hk q.1 (wp_r hP k q hq).lt ?_))
  rintro (⟨i, hi, e⟩ | z)
  · have hw : (pool cy ad b n M)[i]? = some (ad (b + i), ent cy ad M (b + i)) := by
      have := pool_at (cy := cy) (ad := ad) (M := M) (b := b) (n := n) (j := b + i) ⟨by omega, by omega⟩
      rwa [Nat.add_sub_cancel_left] at this
    exact dp_x hD hw hq e.symm
  · have := (wp_r hP k q hq).lt
    omega
/-- other orders -/
theorem mid_P {D : va_G} {cl : List vw_C} {w T : va_W} {x : Nat × va_E} {H : Heap} (h : va_P D cl (w ++ (x :: T)) H) : va_P D cl (x :: (w ++ T)) H := h.pm List.perm_middle.symm
theorem mid_D {A : Nat → Prop} {w T : va_W} {x : Nat × va_E} (h : va_D A (w ++ (x :: T))) : va_D A (x :: (w ++ T)) := h.pm List.perm_middle.symm
theorem swp_P {D : va_G} {cl : List vw_C} {a b c : va_W} {H : Heap} (h : va_P D cl (a ++ (b ++ c)) H) : va_P D cl (b ++ (a ++ c)) H := h.pm (List.perm_append_comm_assoc b a c)
theorem swp_D {A : Nat → Prop} {a b c : va_W} (h : va_D A (a ++ (b ++ c))) : va_D A (b ++ (a ++ c)) := h.pm (List.perm_append_comm_assoc b a c)
section CWP
variable {p : Program} {l : Launch} {e : Env} {R : Room} {s : State} {m : MethodId} {args : Array Value} {below : List Frame} {meth : Method} {c : Code} {H : Heap} {locs : List Loc} {Q : State → Prop} {cc : ByteArray} {nL : Nat} {own : String} {D : va_G} {cy : Nat → ClassId} {zz : (Nat → Nat) × (Nat → Nat)} {A : Nat → Prop} {pc : Nat} {ls : Array Slot} {rest : List Value} {ws : va_W} {cells slots : Nat}
theorem cw_pi (C : CW p s m args meth c cc nL own D cy zz A) {ad : Nat → Nat} {b n : Nat} {M M' : Mem} (hP : va_P D vwCl (pool cy ad b n M ++ ws) H) (hD : va_D A (pool cy ad b n M ++ ws)) (hS : va_S A s.heap H locs) {index j maxL : Nat} {y : MethodName} {bytes : ByteArray} {ret : Option FieldType} {rm : Room} {As st0 : List Value} {r : Int32} {C0 : String}
    (hM : CTi l D cy ad zz b n y (.code y bytes maxL ret :: tb) rm (.ref j :: As) M r M')
    (hc : ∃ cell : Cell, H[j]? = some cell ∧ cell.vm.isStatics = false ∧ s.vm.findClass C0 = some cell.cls) (hG : GoodIn tb (wsV own index C0 y (.code y bytes maxL ret :: tb)))
    (hd : y.cls = C0 ∧ y.cls ≠ "java/lang/invoke/MethodHandle" ∧ y.cls ≠ "java/lang/invoke/VarHandle" ∧ (parseMethodDescriptor y.desc).map (fun d => d.parameters.length) = some As.length)
    (hrm : rm.cells = 0 ∧ rm.slots = 0) (hR : rm.frames + 1 ≤ R.frames ∧ 8 + (maxL + 11) + rm.locals ≤ R.locals) (hls : ls.size = nL) (hst : st0 = As.reverse ++ .ref j :: rest) (hw : (rest.map fun v => v.category).sum ≤ 8) (hdg : decode cc pc = .ok (.invokevirtual index, 3)) (hf : cells ≤ R.cells ∧ slots ≤ R.slots)
    (kk : ∀ (H : Heap) (locs : List Loc), va_P D vwCl (pool cy ad b n M' ++ ws) H → va_D A (pool cy ad b n M' ++ ws) → va_S A s.heap H locs → W p l e R s m args below meth c H locs cells slots Q (F0 m (pc + 3) ls (.int r :: rest))) : W p l e R s m args below meth c H locs cells slots Q (F0 m pc ls st0) := by
  obtain ⟨hx, hb, hml, hown, hts, hlk, hK, hN2, hA, hX⟩ := C
  have hP0 := wp_l hP
  have hD0 := dp_l hD
  refine va_calli (va_runV (As := As) (rest := rest) ⟨hx, hb, hml, hown, hts⟩ (hM H.size) (cwV As.length hts hG rfl hrm.1 hrm.2 hd hR) ⟨pp_blind, hc, fun U hU hW => ⟨rfl, by rw [hU], by rw [hU]; exact hP0, va_K.moved hW.alike hK, hD0.weaken (fun _ _ _ _ => trivial), va_Nw.warmM hW hN2.1, XP.pass hX hS hD0 hA hU hW⟩⟩ rfl rfl hls hst (lv_room hw) hdg hf) hS (fun q _ h => pA_sub hD0 hA hS.1 q h) (fun q h => pA_sub hD0 hA hS.1 q h) (fun r1 u t H1 locs1 ht hvm hw1 hB hz1 hk1 hS1 => ?_)
  obtain ⟨hP1, hK1, hD1⟩ := hB
  rw [ht] at hP1
  subst hw1
  exact kk H1 locs1 (pl_keep hP hD hk1 hP1) (pools_D hD) hS1
theorem cw_pl (C : CW p s m args meth c cc nL own D cy zz A) {ad : Nat → Nat} {b n : Nat} {M M' : Mem} (hP : va_P D vwCl (pool cy ad b n M ++ ws) H) (hD : va_D A (pool cy ad b n M ++ ws)) (hS : va_S A s.heap H locs) {index j maxL : Nat} {y : MethodName} {bytes : ByteArray} {ret : Option FieldType} {rm : Room} {As st0 : List Value} {r : Int64} {C0 : String}
    (hM : CTl l D cy ad zz b n y (.code y bytes maxL ret :: tb) rm (.ref j :: As) M r M')
    (hc : ∃ cell : Cell, H[j]? = some cell ∧ cell.vm.isStatics = false ∧ s.vm.findClass C0 = some cell.cls) (hG : GoodIn tb (wsV own index C0 y (.code y bytes maxL ret :: tb)))
    (hd : y.cls = C0 ∧ y.cls ≠ "java/lang/invoke/MethodHandle" ∧ y.cls ≠ "java/lang/invoke/VarHandle" ∧ (parseMethodDescriptor y.desc).map (fun d => d.parameters.length) = some As.length)
    (hrm : rm.cells = 0 ∧ rm.slots = 0) (hR : rm.frames + 1 ≤ R.frames ∧ 8 + (maxL + 11) + rm.locals ≤ R.locals) (hls : ls.size = nL) (hst : st0 = As.reverse ++ .ref j :: rest) (hw : (rest.map fun v => v.category).sum ≤ 8) (hdg : decode cc pc = .ok (.invokevirtual index, 3)) (hf : cells ≤ R.cells ∧ slots ≤ R.slots)
    (kk : ∀ (H : Heap) (locs : List Loc), va_P D vwCl (pool cy ad b n M' ++ ws) H → va_D A (pool cy ad b n M' ++ ws) → va_S A s.heap H locs → W p l e R s m args below meth c H locs cells slots Q (F0 m (pc + 3) ls (.long r :: rest))) : W p l e R s m args below meth c H locs cells slots Q (F0 m pc ls st0) := by
  obtain ⟨hx, hb, hml, hown, hts, hlk, hK, hN2, hA, hX⟩ := C
  have hP0 := wp_l hP
  have hD0 := dp_l hD
  refine va_calll (va_runV (As := As) (rest := rest) ⟨hx, hb, hml, hown, hts⟩ (hM H.size) (cwV As.length hts hG rfl hrm.1 hrm.2 hd hR) ⟨pp_blind, hc, fun U hU hW => ⟨rfl, by rw [hU], by rw [hU]; exact hP0, va_K.moved hW.alike hK, hD0.weaken (fun _ _ _ _ => trivial), va_Nw.warmM hW hN2.1, XP.pass hX hS hD0 hA hU hW⟩⟩ rfl rfl hls hst (lv_room hw) hdg hf) hS (fun q _ h => pA_sub hD0 hA hS.1 q h) (fun q h => pA_sub hD0 hA hS.1 q h) (fun r1 u t H1 locs1 ht hvm hw1 hB hz1 hk1 hS1 => ?_)
  obtain ⟨hP1, hK1, hD1⟩ := hB
  rw [ht] at hP1
  subst hw1
  exact kk H1 locs1 (pl_keep hP hD hk1 hP1) (pools_D hD) hS1
theorem cw_new (C : CW p s m args meth c cc nL own D cy zz A) (hP : va_P D vwCl ws H) (hD : va_D A ws) (hS : va_S A s.heap H locs) {ci index N : Nat} {C0 : String} {T : u_T} {ty : Nat → FieldType} {fs : List Value} (hin : ∀ w ∈ u_ws C0 T N, w ∈ tb) (hty : ∀ k, k < N → parseFieldDescriptor (T k).2.2.1 = some (ty k)) (hcl : Cond.classLink own index C0 ∈ tb) (hinst : Cond.instantiable C0 N ∈ tb) (hini : Cond.initialized C0 ∈ tb) (hc : vwCl[ci]? = some (C0, T, N)) (hfs : ∀ j, j < N → defaultValue (ty j) = vp_V fs j) (hcells : cells + 1 ≤ R.cells) (hslots : slots + N ≤ R.slots) (hdg : decode cc pc = .ok (.new index, 3))
    (kk : ∀ (q : Nat) (H : Heap), va_P D vwCl ((q, .inr (ci, fs)) :: ws) H → va_D A ((q, .inr (ci, fs)) :: ws) → va_S A s.heap H locs → W p l e R s m args below meth c H locs (cells + 1) (slots + N) Q (F0 m (pc + 3) ls (.ref q :: rest))) : W p l e R s m args below meth c H locs cells slots Q (F0 m pc ls rest) := by
  obtain ⟨hx, hb, hml, hown, hts, hlk, hK, hN2, hA, hX⟩ := C
  exact va_new hx hb hts hin ty hty hown (hts _ hcl) (hts _ hinst) (hts _ hini) hK hP hD hS hA hc hfs hcells hslots hdg (fun q H1 hP1 hD1 hS1 => kk q H1 (rotP hP1) (rotD hD1) hS1)
/-- a row of references gets one -/
theorem cw_aast (C : CW p s m args meth c cc nL own D cy zz A) (hP : va_P D vwCl ws H) (hD : va_D A ws) (hS : va_S A s.heap H locs) {a j n v ci k q0 qk : Nat} {vs : List Value} {r : vw_C} {f : Nat → Option Nat} (hj : (tysC cy)[j]? = some (cy j, .object r.1)) (ha : ws[q0]? = some (a, .inl (cy j, n, .inr (.inr (.inr (.inr f)))))) (hv : ws[qk]? = some (v, .inr (ci, vs))) (hc : vwCl[ci]? = some r) {i : Int32} (hi : i = nI k) (hk : k < n) (hn : n ≤ 1000) (hdg : decode cc pc = .ok (.aastore, 1))
    (kk : ∀ (H : Heap) (locs : List Loc), va_P D vwCl (ws.set q0 (a, .inl (cy j, n, .inr (.inr (.inr (.inr (va_up f k (some v)))))))) H → va_D A (ws.set q0 (a, .inl (cy j, n, .inr (.inr (.inr (.inr (va_up f k (some v)))))))) → va_S A s.heap H locs → W p l e R s m args below meth c H locs cells slots Q (F0 m (pc + 1) ls rest)) : W p l e R s m args below meth c H locs cells slots Q (F0 m pc ls (.ref v :: .int i :: .ref a :: rest)) := by
  obtain ⟨hx, hb, hml, hown, hts, hlk, hK, hN2, hA, hX⟩ := C
  subst hi
  have hcl : (nI k).toNatClampNeg = k := nI_clamp (by omega)
  refine va_astq hx hb hK hP hD hS q0 j qk ci ha hj hv hc (fun z => ?_) hdg (fun H1 locs1 hP1 hD1 hS1 => ?_)
  · rcases z with z | z
    · exact nI_pos (by omega) z
    · rw [hcl] at z
      omega
  · rw [hcl] at hP1 hD1
    exact kk H1 locs1 hP1 hD1 hS1
end CWP
/-- contents that agree up to the length -/
theorem arrV_cg {cI : ClassId} {N : Nat} {f g : Nat → Value} (h : ∀ k, k < N → f k = g k) : arrV cI N f = arrV cI N g := by
  unfold arrV
  congr 1
  exact congrArg Array.ofFn (funext fun j => h j.val j.isLt)
theorem va_P.rq {D : va_G} {cl : List vw_C} {ws : va_W} {H : Heap} {a N : Nat} {cA : ClassId} {f g : Nat → Option Nat} (h : va_P D cl ((a, .inl (cA, N, .inr (.inr (.inr (.inr f))))) :: ws) H) (hf : ∀ k, k < N → f k = g k) : va_P D cl ((a, .inl (cA, N, .inr (.inr (.inr (.inr g))))) :: ws) H := by
  intro k q hk
  cases k with
  | zero =>
    cases hk
    have h0 : H[a]? = some (vp_cell cA (N, .inr (.inr (.inr (.inr f))))) := h 0 _ rfl
    show H[a]? = some (vp_cell cA (N, .inr (.inr (.inr (.inr g)))))
    rw [h0, vp_cell_q, vp_cell_q]
    exact congrArg some (arrV_cg (fun k hk => by rw [hf k hk]))
  | succ k => exact h (k + 1) q hk
theorem va_P.ri {D : va_G} {cl : List vw_C} {ws : va_W} {H : Heap} {a N : Nat} {cA : ClassId} {f g : Nat → Int32} (h : va_P D cl ((a, .inl (cA, N, .inl f)) :: ws) H) (hf : ∀ k, k < N → f k = g k) : va_P D cl ((a, .inl (cA, N, .inl g)) :: ws) H := by
  intro k q hk
  cases k with
  | zero =>
    cases hk
    have h0 : H[a]? = some (vp_cell cA (N, .inl f)) := h 0 _ rfl
    show H[a]? = some (vp_cell cA (N, .inl g))
    rw [h0, vp_cell_i, vp_cell_i]
    exact congrArg some (arrV_cg (fun k hk => by rw [hf k hk]))
  | succ k => exact h (k + 1) q hk
theorem va_D.re {A : Nat → Prop} {ws ws' : va_W} (h : va_D A ws) (e : ws.map Prod.fst = ws'.map Prod.fst) : va_D A ws' := by
  rw [va_D.iff2] at h ⊢
  rw [← e]
  exact h
