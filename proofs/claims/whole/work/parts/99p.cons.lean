/-! L3: both constructors -/
def X5G (h0 : Nat) (u : Mem × (Nat → Nat)) : Prop := u.2 0 = h0 ∧ (FJ u.1 1 0 = 0 ∧ FI u.1 1 1 = 0 ∧ FI u.1 1 2 = 0 ∧ FI u.1 1 3 = 0) ∧ FI u.1 0 8 = 1 ∧ FI u.1 0 9 = 0 ∧ FI u.1 0 10 = 0 ∧ RTc u.1 46 lawT ∧ (∀ k, k < 4 → FI u.1 (74 + k) 0 = -1 ∧ FI u.1 (74 + k) 1 = 0 ∧ ∀ j, j < 40 → AI u.1 (78 + k) j = 0) ∧ wfT lawT
def X6G (h0 : Nat) (u : Mem × (Nat → Nat)) : Prop := u.2 100 = h0 ∧ (FJ u.1 100 6 = 0 ∧ FI u.1 100 7 = 0 ∧ FI u.1 100 13 = 0 ∧ FI u.1 100 0 = 0) ∧ FI u.1 100 12 = 1 ∧ FI u.1 100 9 = 0 ∧ FI u.1 100 14 = 0 ∧ RTr u.1 0 lawT ∧ (∀ k, k < 4 → AI u.1 111 k = -1 ∧ AI u.1 112 k = 0 ∧ ∀ j, j < 40 → AI u.1 113 (40 * k + j) = 0) ∧ ∀ k, k < 96 → AI u.1 115 k = nI (wtab.getD k 0)
theorem m50_f : ∀ k, k < 4 → FI M50 (74 + k) 0 = -1 ∧ FI M50 (74 + k) 1 = 0 := by decide +kernel
theorem x5_st : ∃ M', f_X0_readAll 201 (nI 35) 46 M50 = some (-1, M') ∧ ∀ ad h0, ad 0 = h0 → X5G h0 (sFI M' 0 8 1, ad) := by
  obtain ⟨M', h1, hm, ht, hw⟩ := start_c (N := 201) (M := M50) (by decide) (fun k hk => if_pos hk)
  have g : ∀ a, a ≠ 72 → a ≠ 46 → a ≠ 52 → a ≠ 58 → a ≠ 64 → (∀ k, FI M' a k = FI M50 a k) ∧ (∀ k, FJ M' a k = FJ M50 a k) ∧ AI M' a = AI M50 a := fun a z1 z2 z3 z4 z5 => hm a (fun z => by rcases z with z | z | z | z | z <;> contradiction)
  have g0 := g 0 (by decide) (by decide) (by decide) (by decide) (by decide)
  have g1 := g 1 (by decide) (by decide) (by decide) (by decide) (by decide)
  refine ⟨M', h1, fun ad h0 e0 => ⟨e0, ⟨(g1.2.1 0).trans rfl, ?_, ?_, ?_⟩, FI_s, ?_, ?_, ht.mx (Mx.fi M' 0 8 1) (by decide) (by decide) (by decide), fun k hk => ⟨?_, ?_, fun j hj => ?_⟩, hw⟩⟩
  · exact (FI_n (by decide)).trans ((g1.1 1).trans rfl)
  · exact (FI_n (by decide)).trans ((g1.1 2).trans rfl)
  · exact (FI_n (by decide)).trans ((g1.1 3).trans rfl)
  · exact (FI_n (by decide)).trans ((g0.1 9).trans rfl)
  · exact (FI_n (by decide)).trans ((g0.1 10).trans rfl)
  · have q := g (74 + k) (by omega) (by omega) (by omega) (by omega) (by omega)
    exact (FI_n (by omega)).trans ((q.1 0).trans (m50_f k hk).1)
  · have q := g (74 + k) (by omega) (by omega) (by omega) (by omega) (by omega)
    exact (FI_n (by omega)).trans ((q.1 1).trans (m50_f k hk).2)
  · have q := g (78 + k) (by omega) (by omega) (by omega) (by omega) (by omega)
    show AI M' (78 + k) j = 0
    rw [q.2.2]
    exact if_neg (by omega)
theorem x6_st : ∃ r R', f_X6_text 201 R60 = some (r, R') ∧ ∀ ad h0, ad 100 = h0 → X6G h0 (R', ad) := by
  obtain ⟨r, R', h1, hk, g12, g9, gT⟩ := start_r (N := 201) (R := R60) (by decide) ⟨(show (34 : Int32) = nI 34 by decide), fun k hk => if_pos hk, fun k hk => if_pos hk⟩ rfl
  refine ⟨r, R', h1, fun ad h0 e0 => ⟨e0, ⟨(hk.2.1 6).trans rfl, (hk.1 7 (by decide) (by decide) (by decide)).trans rfl, (hk.1 13 (by decide) (by decide) (by decide)).trans rfl, (hk.1 0 (by decide) (by decide) (by decide)).trans rfl⟩, g12.trans (by decide), g9, (hk.1 14 (by decide) (by decide) (by decide)).trans rfl, gT, fun k hk4 => ⟨?_, ?_, fun j hj => ?_⟩, fun k hk96 => ?_⟩⟩
  · show AI R' 111 k = -1
    rw [hk.2.2.1 111 (by decide) (by decide) (by decide)]
    exact if_pos hk4
  · show AI R' 112 k = 0
    rw [hk.2.2.1 112 (by decide) (by decide) (by decide)]
    rfl
  · show AI R' 113 (40 * k + j) = 0
    rw [hk.2.2.1 113 (by decide) (by decide) (by decide)]
    rfl
  · show AI R' 115 k = nI (wtab.getD k 0)
    rw [hk.2.2.1 115 (by decide) (by decide) (by decide)]
    exact if_pos hk96
theorem evR : yX0_readAll.cls = RX0 ∧ yX0_readAll.cls ≠ "java/lang/invoke/MethodHandle" ∧ yX0_readAll.cls ≠ "java/lang/invoke/VarHandle" ∧ (parseMethodDescriptor yX0_readAll.desc).map (fun d => d.parameters.length) = some 2 := by decide +kernel
theorem evT : yX6_text.cls = RX6 ∧ yX6_text.cls ≠ "java/lang/invoke/MethodHandle" ∧ yX6_text.cls ≠ "java/lang/invoke/VarHandle" ∧ (parseMethodDescriptor yX6_text.desc).map (fun d => d.parameters.length) = some 0 := by decide +kernel
set_option maxHeartbeats 4000000 in
set_option maxRecDepth 100000 in
theorem x5_b {l : Launch} {D : va_G} {cy : Nat → ClassId} {zz : (Nat → Nat) × (Nat → Nat)} {h0 w1 w2 w3 g gq tr tp sr sk t0 t1 t2 t3 t4 t5 s0 s1 s2 s3 n0 n1 n2 n3 : Nat} {u1 u2 u3 : Nat × (Nat → Nat) × (Nat → Nat)} {v0 v1 v2 v3 v4 v5 : Nat × Nat × Nat} {p : Program} {e : Env} {s : State} {m : MethodId} {args : Array Value} {below : List Frame} {meth : Method} {c : Code} {A : Nat → Prop} {H : Heap} {locs : List Loc} {ls : Array Slot} {Q : State → Prop} (C : CW p s m args meth c cX5_init 4 RX5 D cy zz A) (hin : meth.name = "<init>") (hP : va_P D vwCl ((tp, .inl (cy 0, 160, .inl (filF (fun k => nI (lawB k)) 35))) :: (h0, .inr (5, [.ref w1, .ref w2, .ref w3, .ref g, .ref tr, .ref tp, .null, .ref sr, .int 0, .int 0, .int 0])) :: (tr, .inl (cy 4, 6, .inr (.inr (.inr (.inr (va_up (va_up (va_up (va_up (va_up (va_up (fun _ => none) 0 (some t0)) 1 (some t1)) 2 (some t2)) 3 (some t3)) 4 (some t4)) 5 (some t5))))))) :: (sr, .inl (cy 2, 4, .inr (.inr (.inr (.inr (va_up (va_up (va_up (va_up (fun _ => none) 0 (some s0)) 1 (some s1)) 2 (some s2)) 3 (some s3))))))) :: (sk, .inl (cy 0, 160, .inl (fun _ => 0))) :: (shW cy s3 n3 ++ (shW cy s2 n2 ++ (shW cy s1 n1 ++ (shW cy s0 n0 ++ (txW cy sk t5 v5 ++ (txW cy sk t4 v4 ++ (txW cy sk t3 v3 ++ (txW cy sk t2 v2 ++ (txW cy sk t1 v1 ++ (txW cy sk t0 v0 ++ (slW cy g gq ++ (wdW cy w3 u3 ++ (wdW cy w2 u2 ++ (wdW cy w1 u1 ++ []))))))))))))))) H) (hD : va_D A ((tp, .inl (cy 0, 160, .inl (filF (fun k => nI (lawB k)) 35))) :: (h0, .inr (5, [.ref w1, .ref w2, .ref w3, .ref g, .ref tr, .ref tp, .null, .ref sr, .int 0, .int 0, .int 0])) :: (tr, .inl (cy 4, 6, .inr (.inr (.inr (.inr (va_up (va_up (va_up (va_up (va_up (va_up (fun _ => none) 0 (some t0)) 1 (some t1)) 2 (some t2)) 3 (some t3)) 4 (some t4)) 5 (some t5))))))) :: (sr, .inl (cy 2, 4, .inr (.inr (.inr (.inr (va_up (va_up (va_up (va_up (fun _ => none) 0 (some s0)) 1 (some s1)) 2 (some s2)) 3 (some s3))))))) :: (sk, .inl (cy 0, 160, .inl (fun _ => 0))) :: (shW cy s3 n3 ++ (shW cy s2 n2 ++ (shW cy s1 n1 ++ (shW cy s0 n0 ++ (txW cy sk t5 v5 ++ (txW cy sk t4 v4 ++ (txW cy sk t3 v3 ++ (txW cy sk t2 v2 ++ (txW cy sk t1 v1 ++ (txW cy sk t0 v0 ++ (slW cy g gq ++ (wdW cy w3 u3 ++ (wdW cy w2 u2 ++ (wdW cy w1 u1 ++ [])))))))))))))))) (hS : va_S A s.heap H locs) (hl : lv_has ls 4 [(3, .int 35), (2, .int 35), (1, .ref sk), (0, .ref h0)])
    (kk : ∀ (M : Mem) (ad : Nat → Nat), X5G h0 (M, ad) → ∀ (H : Heap) (locs : List Loc) (ls : Array Slot), va_P D vwCl (pool cy ad 0 82 M) H → va_D A (pool cy ad 0 82 M) → va_S A s.heap H locs → W p l e RM5 s m args below meth c H locs 81 3004 Q (F0 m 212 ls [])) : W p l e RM5 s m args below meth c H locs 80 2997 Q (F0 m 171 ls []) := by
  obtain ⟨hx, hb, hml, hown, hts, hlk, hK, hN2, hA, hX⟩ := id C
  refine lv_aload_n hx hb dX5_init_171 rfl (lv_at hl 3 rfl) ?_
  refine cw_new C hP hD hS (fs := [.null, .int 0, .int 0, .int 0, .int 0, .int 0, .null]) inT0 tyX0_ok wd_262 wd_263 wd_74 (ci := 0) rfl (by decide) (Nat.le_of_ble_eq_true rfl) (Nat.le_of_ble_eq_true rfl) dX5_init_172 (fun rd H hP hD hS => ?_)
  refine W.widen (k := 81) (n := 3004) (Nat.le_of_ble_eq_true rfl) (Nat.le_of_ble_eq_true rfl) ?_
  refine lv_dup hx hb dX5_init_175 rfl ?_
  refine lv_aload_n hx hb dX5_init_176 rfl (lv_at hl 3 rfl) ?_
  refine va_get (D := D) (ci := 5) (v := .ref tp) (C := RX5) (T := TX5) (N := 11) hx hb hts inT5 hown hK hP 2 rfl rfl 5 (by decide) (hts _ wd_379) (fun _ h9 => h9) rfl dX5_init_177 ?_
  refine lv_aload_n hx hb dX5_init_180 rfl (lv_at hl 3 rfl) ?_
  refine va_get (D := D) (ci := 5) (v := .ref tr) (C := RX5) (T := TX5) (N := 11) hx hb hts inT5 hown hK hP 2 rfl rfl 4 (by decide) (hts _ wd_378) (fun _ h9 => h9) rfl dX5_init_181 ?_
  refine lv_iconst (v := 0) hx hb dX5_init_184 (by decide) ?_
  refine va_aldq hx hb hK hP 3 4 rfl rfl (show ¬ ((0 : Int32) < 0 ∨ 6 ≤ (0 : Int32).toNatClampNeg) by decide) dX5_init_185 ?_
  rw [show va_rf ((va_up (va_up (va_up (va_up (va_up (va_up (fun _ => none) 0 (some t0)) 1 (some t1)) 2 (some t2)) 3 (some t3)) 4 (some t4)) 5 (some t5)) (0 : Int32).toNatClampNeg) = Value.ref t0 from by rw [cl_0]; rfl]
  refine cw_ci (As := [.ref tp, .ref t0]) (rest := [.ref rd, .ref h0]) C hP hD hS (c_X0_init (h0 := rd)) wd_266 wd_74 wd_264 wd_265 rfl ei_X0 ⟨rfl, rfl⟩ ⟨(Nat.le_of_ble_eq_true rfl), (Nat.le_of_ble_eq_true rfl)⟩ hl.1 rfl (Nat.le_of_ble_eq_true rfl) dX5_init_186 ⟨(Nat.le_of_ble_eq_true rfl), (Nat.le_of_ble_eq_true rfl)⟩ (fun uu H locs _ hP hD hS => ?_)
  refine W.widen (k := 81) (n := 3004) (Nat.le_of_ble_eq_true rfl) (Nat.le_of_ble_eq_true rfl) ?_
  replace hP : va_P D vwCl ((rd, rdE tp t0) :: (tp, .inl (cy 0, 160, .inl (filF (fun k => nI (lawB k)) 35))) :: (h0, .inr (5, [.ref w1, .ref w2, .ref w3, .ref g, .ref tr, .ref tp, .null, .ref sr, .int 0, .int 0, .int 0])) :: (tr, .inl (cy 4, 6, .inr (.inr (.inr (.inr (va_up (va_up (va_up (va_up (va_up (va_up (fun _ => none) 0 (some t0)) 1 (some t1)) 2 (some t2)) 3 (some t3)) 4 (some t4)) 5 (some t5))))))) :: (sr, .inl (cy 2, 4, .inr (.inr (.inr (.inr (va_up (va_up (va_up (va_up (fun _ => none) 0 (some s0)) 1 (some s1)) 2 (some s2)) 3 (some s3))))))) :: (sk, .inl (cy 0, 160, .inl (fun _ => 0))) :: (shW cy s3 n3 ++ (shW cy s2 n2 ++ (shW cy s1 n1 ++ (shW cy s0 n0 ++ (txW cy sk t5 v5 ++ (txW cy sk t4 v4 ++ (txW cy sk t3 v3 ++ (txW cy sk t2 v2 ++ (txW cy sk t1 v1 ++ (txW cy sk t0 v0 ++ (slW cy g gq ++ (wdW cy w3 u3 ++ (wdW cy w2 u2 ++ (wdW cy w1 u1 ++ []))))))))))))))) H := hP
  replace hD : va_D A ((rd, rdE tp t0) :: (tp, .inl (cy 0, 160, .inl (filF (fun k => nI (lawB k)) 35))) :: (h0, .inr (5, [.ref w1, .ref w2, .ref w3, .ref g, .ref tr, .ref tp, .null, .ref sr, .int 0, .int 0, .int 0])) :: (tr, .inl (cy 4, 6, .inr (.inr (.inr (.inr (va_up (va_up (va_up (va_up (va_up (va_up (fun _ => none) 0 (some t0)) 1 (some t1)) 2 (some t2)) 3 (some t3)) 4 (some t4)) 5 (some t5))))))) :: (sr, .inl (cy 2, 4, .inr (.inr (.inr (.inr (va_up (va_up (va_up (va_up (fun _ => none) 0 (some s0)) 1 (some s1)) 2 (some s2)) 3 (some s3))))))) :: (sk, .inl (cy 0, 160, .inl (fun _ => 0))) :: (shW cy s3 n3 ++ (shW cy s2 n2 ++ (shW cy s1 n1 ++ (shW cy s0 n0 ++ (txW cy sk t5 v5 ++ (txW cy sk t4 v4 ++ (txW cy sk t3 v3 ++ (txW cy sk t2 v2 ++ (txW cy sk t1 v1 ++ (txW cy sk t0 v0 ++ (slW cy g gq ++ (wdW cy w3 u3 ++ (wdW cy w2 u2 ++ (wdW cy w1 u1 ++ []))))))))))))))) := hD
  refine va_putF (D := D) (ci := 5) (v := .ref rd) (C := RX5) (T := TX5) (N := 11) hx hb hts inT5 tyX5 tyX5_ok nmX5 hown hK hP hD hS 2 rfl rfl 6 (by decide) (hts _ wd_380) (fun _ h9 => h9) rfl hin rfl (tyX5_ok 6 (by decide)) rfl rfl (Nat.le_of_ble_eq_true rfl) dX5_init_189 (fun H locs hP hD hS => ?_)
  replace hP : va_P D vwCl ((rd, rdE tp t0) :: (tp, .inl (cy 0, 160, .inl (filF (fun k => nI (lawB k)) 35))) :: (h0, .inr (5, [.ref w1, .ref w2, .ref w3, .ref g, .ref tr, .ref tp, .ref rd, .ref sr, .int 0, .int 0, .int 0])) :: (tr, .inl (cy 4, 6, .inr (.inr (.inr (.inr (va_up (va_up (va_up (va_up (va_up (va_up (fun _ => none) 0 (some t0)) 1 (some t1)) 2 (some t2)) 3 (some t3)) 4 (some t4)) 5 (some t5))))))) :: (sr, .inl (cy 2, 4, .inr (.inr (.inr (.inr (va_up (va_up (va_up (va_up (fun _ => none) 0 (some s0)) 1 (some s1)) 2 (some s2)) 3 (some s3))))))) :: (sk, .inl (cy 0, 160, .inl (fun _ => 0))) :: (shW cy s3 n3 ++ (shW cy s2 n2 ++ (shW cy s1 n1 ++ (shW cy s0 n0 ++ (txW cy sk t5 v5 ++ (txW cy sk t4 v4 ++ (txW cy sk t3 v3 ++ (txW cy sk t2 v2 ++ (txW cy sk t1 v1 ++ (txW cy sk t0 v0 ++ (slW cy g gq ++ (wdW cy w3 u3 ++ (wdW cy w2 u2 ++ (wdW cy w1 u1 ++ []))))))))))))))) H := hP
  replace hD : va_D A ((rd, rdE tp t0) :: (tp, .inl (cy 0, 160, .inl (filF (fun k => nI (lawB k)) 35))) :: (h0, .inr (5, [.ref w1, .ref w2, .ref w3, .ref g, .ref tr, .ref tp, .ref rd, .ref sr, .int 0, .int 0, .int 0])) :: (tr, .inl (cy 4, 6, .inr (.inr (.inr (.inr (va_up (va_up (va_up (va_up (va_up (va_up (fun _ => none) 0 (some t0)) 1 (some t1)) 2 (some t2)) 3 (some t3)) 4 (some t4)) 5 (some t5))))))) :: (sr, .inl (cy 2, 4, .inr (.inr (.inr (.inr (va_up (va_up (va_up (va_up (fun _ => none) 0 (some s0)) 1 (some s1)) 2 (some s2)) 3 (some s3))))))) :: (sk, .inl (cy 0, 160, .inl (fun _ => 0))) :: (shW cy s3 n3 ++ (shW cy s2 n2 ++ (shW cy s1 n1 ++ (shW cy s0 n0 ++ (txW cy sk t5 v5 ++ (txW cy sk t4 v4 ++ (txW cy sk t3 v3 ++ (txW cy sk t2 v2 ++ (txW cy sk t1 v1 ++ (txW cy sk t0 v0 ++ (slW cy g gq ++ (wdW cy w3 u3 ++ (wdW cy w2 u2 ++ (wdW cy w1 u1 ++ []))))))))))))))) := hD
  refine lv_aload_n hx hb dX5_init_192 rfl (lv_at hl 3 rfl) ?_
  refine va_get (D := D) (ci := 5) (v := .ref rd) (C := RX5) (T := TX5) (N := 11) hx hb hts inT5 hown hK hP 2 rfl rfl 6 (by decide) (hts _ wd_380) (fun _ h9 => h9) rfl dX5_init_193 ?_
  refine lv_iload_n hx hb dX5_init_196 rfl (lv_at hl 1 rfl) ?_
  refine lv_aload_n hx hb dX5_init_197 rfl (lv_at hl 3 rfl) ?_
  refine va_get (D := D) (ci := 5) (v := .ref tr) (C := RX5) (T := TX5) (N := 11) hx hb hts inT5 hown hK hP 2 rfl rfl 4 (by decide) (hts _ wd_378) (fun _ h9 => h9) rfl dX5_init_198 ?_
  refine lv_iconst (v := 0) hx hb dX5_init_201 (by decide) ?_
  refine va_aldq hx hb hK hP 3 4 rfl rfl (show ¬ ((0 : Int32) < 0 ∨ 6 ≤ (0 : Int32).toNatClampNeg) by decide) dX5_init_202 ?_
  rw [show va_rf ((va_up (va_up (va_up (va_up (va_up (va_up (fun _ => none) 0 (some t0)) 1 (some t1)) 2 (some t2)) 3 (some t3)) 4 (some t4)) 5 (some t5)) (0 : Int32).toNatClampNeg) = Value.ref t0 from by rw [cl_0]; rfl]
  replace hP := x5_pool hP
  replace hD := x5_poolD hD
  obtain ⟨M1, hM1, hG⟩ := x5_st
  generalize hAd : adL (al5 h0 w1 w2 w3 g gq tr tp sr sk rd t0 t1 t2 t3 t4 t5 s0 s1 s2 s3 n0 n1 n2 n3 u1 u2 u3 v0 v1 v2 v3 v4 v5) = ad at hP hD
  have a0 : h0 = ad 0 := by rw [← hAd]; rfl
  have a46 : t0 = ad 46 := by rw [← hAd]; rfl
  have a72 : rd = ad 72 := by rw [← hAd]; rfl
  rw [a46, a72]
  have hP0 : va_P D vwCl (pool cy ad 0 82 M50 ++ []) H := by rw [List.append_nil]; exact hP
  have hD0 : va_D A (pool cy ad 0 82 M50 ++ []) := by rw [List.append_nil]; exact hD
  refine cw_pi (j := ad 72) (ws := []) (As := [.int (nI 35), .ref (ad 46)]) (rest := []) C hP0 hD0 hS (c_X0_readAll rfl hM1) (recv_pool (b := 0) (n := 82) hK hP0 ⟨by decide, by decide⟩ (ent_0 rfl) (ci := 0) rfl) (gV wd_291 wd_292 wd_293 wd_74 wd_294) evR ⟨rfl, rfl⟩ ⟨(Nat.le_of_ble_eq_true rfl), (Nat.le_of_ble_eq_true rfl)⟩ hl.1 rfl (Nat.le_of_ble_eq_true rfl) dX5_init_203 ⟨(Nat.le_of_ble_eq_true rfl), (Nat.le_of_ble_eq_true rfl)⟩ (fun H locs hP1 hD1 hS => ?_)
  rw [List.append_nil] at hP1 hD1
  refine lv_pop hx hb dX5_init_206 rfl ?_
  refine lv_aload_n hx hb dX5_init_207 rfl (lv_at hl 3 rfl) ?_
  refine lv_iconst (v := 1) hx hb dX5_init_208 (by decide) ?_
  rw [a0]
  refine cw_pput (M' := sFI M1 0 8 1) (k := 8) C hP1 hD1 hS (j := 0) ⟨by decide, by decide⟩ (ent_5 rfl) rfl inT5 tyX5_ok nmX5 (by decide) wd_382 rfl rfl rfl rfl (Nat.le_of_ble_eq_true rfl) ((ent_5 rfl).trans rfl) eo_FI dX5_init_209 (fun H locs hP hD hS => ?_)
  exact kk _ _ (hG ad h0 a0.symm) H locs ls hP hD hS

set_option maxHeartbeats 4000000 in
set_option maxRecDepth 100000 in
/-- BedsocksKeepRoads() -/
theorem c_X5_init {l : Launch} {D : va_G} {cy : Nat → ClassId} {zz : (Nat → Nat) × (Nat → Nat)} {h0 : Nat} : CTn (S := Mem × (Nat → Nat)) l D cy zz yX5_init (.code yX5_init cX5_init 4 none :: tb) RM5 [] h0 (.inr (5, [.null, .null, .null, .null, .null, .null, .null, .null, .int 0, .int 0, .int 0])) 81 3004 (X5G h0) (fun u => pool cy u.2 0 82 u.1) := by
  refine CTn.of (by decide +kernel) rfl (fun sz p e s m args below meth c H ls C hr hin hP hD hS hl => ?_) (Nat.le_of_ble_eq_true rfl)
  refine x5_a C hin hP hD hS hl (fun w1 w2 w3 g gq tr tp sr sk t0 t1 t2 t3 t4 t5 s0 s1 s2 s3 n0 n1 n2 n3 u1 u2 u3 v0 v1 v2 v3 v4 v5 H locs ls hP hD hS hl => ?_)
  refine x5_tape C rfl ⟨Nat.le_of_ble_eq_true rfl, Nat.le_of_ble_eq_true rfl, Nat.le_of_ble_eq_true rfl, Nat.le_of_ble_eq_true rfl⟩ (fun H locs ls hP hD hS hl => ?_) 35 0 rfl H locs ls (va_P.ri hP (fun k _ => (if_neg (Nat.not_lt_zero k)).symm)) (hD.re rfl) hS hl
  refine x5_b C hin hP hD hS hl (fun M ad hG H locs ls hP hD hS => ?_)
  exact cw_ret C hr (M, ad) hG hP hD hS dX5_init_212

set_option maxHeartbeats 4000000 in
set_option maxRecDepth 100000 in
theorem x6_b {l : Launch} {D : va_G} {cy : Nat → ClassId} {zz : (Nat → Nat) × (Nat → Nat)} {h0 q1 q2 q3 q4 q5 q6 q7 q8 q9 q10 q11 q12 q13 q14 q15 q16 q17 q18 q19 q20 : Nat} {p : Program} {e : Env} {s : State} {m : MethodId} {args : Array Value} {below : List Frame} {meth : Method} {c : Code} {A : Nat → Prop} {H : Heap} {locs : List Loc} {ls : Array Slot} {Q : State → Prop} (C : CW p s m args meth c cX6_init 2 RX6 D cy zz A) (hin : meth.name = "<init>") (hP : va_P D vwCl ((q6, .inl (cy 0, 160, .inl (filF (fun k => nI (lawB k)) 34))) :: (h0, .inr (6, [.int 0, .ref q1, .ref q2, .ref q3, .ref q4, .ref q5, .long 0, .int 0, .ref q6, .int 0, .ref q7, .ref q8, .int 0, .int 0, .int 0, .ref q9, .long 0, .ref q10, .ref q11, .ref q12, .ref q13, .ref q14, .int 0, .int 0, .int 0, .int 0, .ref q15, .ref q16, .int 0, .int 0, .int 0, .ref q17, .ref q18, .ref q19, .int 0, .ref q20, .int 0])) :: (q14, .inl (cy 0, 34, .inl (filF (fun k => nI (lawB k)) 34))) :: (q20, .inl (cy 0, 31, .inl (fun _ => 0))) :: (q19, .inl (cy 1, 6, .inr (.inl (fun _ => 0)))) :: (q18, .inl (cy 0, 6, .inl (fun _ => 0))) :: (q17, .inl (cy 0, 200, .inl (fun _ => 0))) :: (q16, .inl (cy 0, 200, .inl (fun _ => 0))) :: (q15, .inl (cy 0, 96, .inl (filF (fun k => nI (wtab.getD k 0)) 96))) :: (q13, .inl (cy 0, 160, .inl (fun _ => 0))) :: (q12, .inl (cy 0, 4, .inl (fun _ => 0))) :: (q11, .inl (cy 0, 4, .inl (filF (fun _ => (-1 : Int32)) 4))) :: (q10, .inl (cy 0, 3, .inl (fun _ => 0))) :: (q9, .inl (cy 0, 132, .inl (fun _ => 0))) :: (q8, .inl (cy 0, 24, .inl (fun _ => 0))) :: (q7, .inl (cy 0, 1200, .inl (fun _ => 0))) :: (q5, .inl (cy 0, 6, .inl (fun _ => 0))) :: (q4, .inl (cy 0, 96, .inl (fun _ => 0))) :: (q3, .inl (cy 0, 30, .inl (fun _ => 0))) :: (q2, .inl (cy 0, 6, .inl (fun _ => 0))) :: (q1, .inl (cy 0, 6, .inl (fun _ => 0))) :: []) H) (hD : va_D A ((q6, .inl (cy 0, 160, .inl (filF (fun k => nI (lawB k)) 34))) :: (h0, .inr (6, [.int 0, .ref q1, .ref q2, .ref q3, .ref q4, .ref q5, .long 0, .int 0, .ref q6, .int 0, .ref q7, .ref q8, .int 0, .int 0, .int 0, .ref q9, .long 0, .ref q10, .ref q11, .ref q12, .ref q13, .ref q14, .int 0, .int 0, .int 0, .int 0, .ref q15, .ref q16, .int 0, .int 0, .int 0, .ref q17, .ref q18, .ref q19, .int 0, .ref q20, .int 0])) :: (q14, .inl (cy 0, 34, .inl (filF (fun k => nI (lawB k)) 34))) :: (q20, .inl (cy 0, 31, .inl (fun _ => 0))) :: (q19, .inl (cy 1, 6, .inr (.inl (fun _ => 0)))) :: (q18, .inl (cy 0, 6, .inl (fun _ => 0))) :: (q17, .inl (cy 0, 200, .inl (fun _ => 0))) :: (q16, .inl (cy 0, 200, .inl (fun _ => 0))) :: (q15, .inl (cy 0, 96, .inl (filF (fun k => nI (wtab.getD k 0)) 96))) :: (q13, .inl (cy 0, 160, .inl (fun _ => 0))) :: (q12, .inl (cy 0, 4, .inl (fun _ => 0))) :: (q11, .inl (cy 0, 4, .inl (filF (fun _ => (-1 : Int32)) 4))) :: (q10, .inl (cy 0, 3, .inl (fun _ => 0))) :: (q9, .inl (cy 0, 132, .inl (fun _ => 0))) :: (q8, .inl (cy 0, 24, .inl (fun _ => 0))) :: (q7, .inl (cy 0, 1200, .inl (fun _ => 0))) :: (q5, .inl (cy 0, 6, .inl (fun _ => 0))) :: (q4, .inl (cy 0, 96, .inl (fun _ => 0))) :: (q3, .inl (cy 0, 30, .inl (fun _ => 0))) :: (q2, .inl (cy 0, 6, .inl (fun _ => 0))) :: (q1, .inl (cy 0, 6, .inl (fun _ => 0))) :: [])) (hS : va_S A s.heap H locs) (hl : lv_has ls 2 [(1, .int 34), (0, .ref h0)])
    (kk : ∀ (M : Mem) (ad : Nat → Nat), X6G h0 (M, ad) → ∀ (H : Heap) (locs : List Loc) (ls : Array Slot), va_P D vwCl (pool cy ad 100 21 M) H → va_D A (pool cy ad 100 21 M) → va_S A s.heap H locs → W p l e RM6 s m args below meth c H locs 20 2404 Q (F0 m 988 ls [])) : W p l e RM6 s m args below meth c H locs 20 2404 Q (F0 m 977 ls []) := by
  obtain ⟨hx, hb, hml, hown, hts, hlk, hK, hN2, hA, hX⟩ := id C
  refine lv_aload_n hx hb dX6_init_977 rfl (lv_at hl 1 rfl) ?_
  refine lv_bipush (v := 34) hx hb dX6_init_978 (by decide) ?_
  refine va_put (D := D) (ci := 6) (v := .int 34) (C := RX6) (T := TX6) (N := 37) hx hb hts inT6 tyX6 tyX6_ok nmX6 hown hK hP hD hS 1 rfl rfl 9 (by decide) (hts _ wd_891) (fun _ h9 => h9) rfl (tyX6_ok 9 (by decide)) rfl rfl (Nat.le_of_ble_eq_true rfl) dX6_init_980 (fun H locs hP hD hS => ?_)
  replace hP : va_P D vwCl ((q6, .inl (cy 0, 160, .inl (filF (fun k => nI (lawB k)) 34))) :: (h0, .inr (6, [.int 0, .ref q1, .ref q2, .ref q3, .ref q4, .ref q5, .long 0, .int 0, .ref q6, .int 34, .ref q7, .ref q8, .int 0, .int 0, .int 0, .ref q9, .long 0, .ref q10, .ref q11, .ref q12, .ref q13, .ref q14, .int 0, .int 0, .int 0, .int 0, .ref q15, .ref q16, .int 0, .int 0, .int 0, .ref q17, .ref q18, .ref q19, .int 0, .ref q20, .int 0])) :: (q14, .inl (cy 0, 34, .inl (filF (fun k => nI (lawB k)) 34))) :: (q20, .inl (cy 0, 31, .inl (fun _ => 0))) :: (q19, .inl (cy 1, 6, .inr (.inl (fun _ => 0)))) :: (q18, .inl (cy 0, 6, .inl (fun _ => 0))) :: (q17, .inl (cy 0, 200, .inl (fun _ => 0))) :: (q16, .inl (cy 0, 200, .inl (fun _ => 0))) :: (q15, .inl (cy 0, 96, .inl (filF (fun k => nI (wtab.getD k 0)) 96))) :: (q13, .inl (cy 0, 160, .inl (fun _ => 0))) :: (q12, .inl (cy 0, 4, .inl (fun _ => 0))) :: (q11, .inl (cy 0, 4, .inl (filF (fun _ => (-1 : Int32)) 4))) :: (q10, .inl (cy 0, 3, .inl (fun _ => 0))) :: (q9, .inl (cy 0, 132, .inl (fun _ => 0))) :: (q8, .inl (cy 0, 24, .inl (fun _ => 0))) :: (q7, .inl (cy 0, 1200, .inl (fun _ => 0))) :: (q5, .inl (cy 0, 6, .inl (fun _ => 0))) :: (q4, .inl (cy 0, 96, .inl (fun _ => 0))) :: (q3, .inl (cy 0, 30, .inl (fun _ => 0))) :: (q2, .inl (cy 0, 6, .inl (fun _ => 0))) :: (q1, .inl (cy 0, 6, .inl (fun _ => 0))) :: []) H := hP
  replace hD : va_D A ((q6, .inl (cy 0, 160, .inl (filF (fun k => nI (lawB k)) 34))) :: (h0, .inr (6, [.int 0, .ref q1, .ref q2, .ref q3, .ref q4, .ref q5, .long 0, .int 0, .ref q6, .int 34, .ref q7, .ref q8, .int 0, .int 0, .int 0, .ref q9, .long 0, .ref q10, .ref q11, .ref q12, .ref q13, .ref q14, .int 0, .int 0, .int 0, .int 0, .ref q15, .ref q16, .int 0, .int 0, .int 0, .ref q17, .ref q18, .ref q19, .int 0, .ref q20, .int 0])) :: (q14, .inl (cy 0, 34, .inl (filF (fun k => nI (lawB k)) 34))) :: (q20, .inl (cy 0, 31, .inl (fun _ => 0))) :: (q19, .inl (cy 1, 6, .inr (.inl (fun _ => 0)))) :: (q18, .inl (cy 0, 6, .inl (fun _ => 0))) :: (q17, .inl (cy 0, 200, .inl (fun _ => 0))) :: (q16, .inl (cy 0, 200, .inl (fun _ => 0))) :: (q15, .inl (cy 0, 96, .inl (filF (fun k => nI (wtab.getD k 0)) 96))) :: (q13, .inl (cy 0, 160, .inl (fun _ => 0))) :: (q12, .inl (cy 0, 4, .inl (fun _ => 0))) :: (q11, .inl (cy 0, 4, .inl (filF (fun _ => (-1 : Int32)) 4))) :: (q10, .inl (cy 0, 3, .inl (fun _ => 0))) :: (q9, .inl (cy 0, 132, .inl (fun _ => 0))) :: (q8, .inl (cy 0, 24, .inl (fun _ => 0))) :: (q7, .inl (cy 0, 1200, .inl (fun _ => 0))) :: (q5, .inl (cy 0, 6, .inl (fun _ => 0))) :: (q4, .inl (cy 0, 96, .inl (fun _ => 0))) :: (q3, .inl (cy 0, 30, .inl (fun _ => 0))) :: (q2, .inl (cy 0, 6, .inl (fun _ => 0))) :: (q1, .inl (cy 0, 6, .inl (fun _ => 0))) :: []) := hD
  refine lv_aload_n hx hb dX6_init_983 rfl (lv_at hl 1 rfl) ?_
  replace hP := x6_pool hP
  replace hD := x6_poolD hD
  obtain ⟨r1, R1, hR1, hG⟩ := x6_st
  generalize hAd : al6 h0 q1 q2 q3 q4 q5 q6 q7 q8 q9 q10 q11 q12 q13 q14 q15 q16 q17 q18 q19 q20 = ad at hP hD
  have a0 : h0 = ad 100 := by rw [← hAd]; rfl
  have hP0 : va_P D vwCl (pool cy ad 100 21 R60 ++ []) H := by rw [List.append_nil]; exact hP
  have hD0 : va_D A (pool cy ad 100 21 R60 ++ []) := by rw [List.append_nil]; exact hD
  refine cw_pi (j := ad 100) (ws := []) (As := []) (rest := []) C hP0 hD0 hS (c_X6_text hR1) (recv_pool (b := 100) (n := 21) hK hP0 ⟨by decide, by decide⟩ (ent_6 rfl) (ci := 6) rfl) (gV wd_835 wd_836 wd_837 wd_75 wd_838) evT ⟨rfl, rfl⟩ ⟨(Nat.le_of_ble_eq_true rfl), (Nat.le_of_ble_eq_true rfl)⟩ hl.1 (by rw [a0]; rfl) (Nat.le_of_ble_eq_true rfl) dX6_init_984 ⟨(Nat.le_of_ble_eq_true rfl), (Nat.le_of_ble_eq_true rfl)⟩ (fun H locs hP1 hD1 hS => ?_)
  rw [List.append_nil] at hP1 hD1
  refine lv_pop hx hb dX6_init_987 rfl ?_
  exact kk _ _ (hG ad h0 a0.symm) H locs ls hP1 hD1 hS

set_option maxHeartbeats 4000000 in
set_option maxRecDepth 100000 in
/-- BedsocksKeepRoadsModel() -/
theorem c_X6_init {l : Launch} {D : va_G} {cy : Nat → ClassId} {zz : (Nat → Nat) × (Nat → Nat)} {h0 : Nat} : CTn (S := Mem × (Nat → Nat)) l D cy zz yX6_init (.code yX6_init cX6_init 2 none :: tb) RM6 [] h0 (.inr (6, [.int 0, .null, .null, .null, .null, .null, .long 0, .int 0, .null, .int 0, .null, .null, .int 0, .int 0, .int 0, .null, .long 0, .null, .null, .null, .null, .null, .int 0, .int 0, .int 0, .int 0, .null, .null, .int 0, .int 0, .int 0, .null, .null, .null, .int 0, .null, .int 0])) 20 2404 (X6G h0) (fun u => pool cy u.2 100 21 u.1) := by
  refine CTn.of (by decide +kernel) rfl (fun sz p e s m args below meth c H ls C hr hin hP hD hS hl => ?_) (Nat.le_of_ble_eq_true rfl)
  refine x6_a C hin hP hD hS hl (fun q1 q2 q3 q4 q5 q6 q7 q8 q9 q10 q11 q12 q13 q14 q15 q16 q17 q18 q19 q20 H locs ls hP hD hS hl => ?_)
  refine x6_copy C rfl rfl (fun H locs ls hP hD hS hl => ?_) 34 0 rfl H locs ls (va_P.ri hP (fun k _ => (if_neg (Nat.not_lt_zero k)).symm)) (hD.re rfl) hS hl
  refine x6_b C hin hP hD hS hl (fun M ad hG H locs ls hP hD hS => ?_)
  exact cw_ret C hr (M, ad) hG hP hD hS dX6_init_988
