/-! L2: nights of a world of the class -/
theorem pass_loop_c {N wi t cnt night : Nat} {w : Int64} {x : Txt} (hN : 160 < N) (h1 : 1 ≤ wi) (h3 : wi ≤ 3) (hc : cnt ≤ 6) (ht : kd t = 3) (hx : wfT x) (hn : night < 100000) (σf : Nat → Sl) (hwf : ∀ q, q < cnt → wfS (σf q)) : ∀ (m fu p : Nat) (M : Mem), m < fu → p + m = cnt → FJ M wi 0 = w → FI M wi 1 = nI night → FI M wi 3 = nI cnt → RTc M t x →
    (∀ q, q < cnt → RS M (slx wi q) (if p ≤ q then σf q else (walkS x night w (σf q)).2.1)) →
    ∃ M', b_X4_pass_4 N wi t fu (nI (sumF (fun q => (walkS x night w (σf q)).1) p)) (nI p) M = some (nI (sumF (fun q => (walkS x night w (σf q)).1) cnt), M') ∧ (∀ q, q < cnt → RS M' (slx wi q) (walkS x night w (σf q)).2.1) ∧ FJ M' wi 0 = w ∧ FI M' wi 1 = nI (night + 1) ∧ (∀ k, k ≠ 1 → FI M' wi k = FI M wi k) ∧ Mx (fun a => inW wi a ∨ a = 70) M M' := by
  intro m
  induction m with
  | zero =>
    intro fu p M hf hp h0 hni hC hT hS
    obtain ⟨fu, rfl⟩ : ∃ z, fu = z + 1 := ⟨fu - 1, by omega⟩
    have : p = cnt := by omega
    subst this
    rw [b_X4_pass_4, hC, if_pos (nI_le (by omega) (by omega))]
    unfold b_X4_pass_45
    rw [hni, nI_1]
    refine ⟨_, rfl, fun q hq => ?_, h0, FI_s, fun k hk => FI_n hk, (Mx.fi M wi 1 _).wk (fun a ha => Or.inl (Or.inl ha))⟩
    have h := hS q hq
    rw [if_neg (by omega)] at h
    have := slx_eq h1 h3 q
    exact h.mx (Mx.fi M wi 1 _) (by omega) (by omega)
  | succ m ih =>
    intro fu p M hf hp h0 hni hC hT hS
    obtain ⟨fu, rfl⟩ : ∃ z, fu = z + 1 := ⟨fu - 1, by omega⟩
    have ki := slx_kd (q := p) h1 h3 (by omega)
    have si := slx_eq h1 h3 p
    have hSp := hS p (by omega)
    rw [if_pos (Nat.le_refl p)] at hSp
    obtain ⟨t1, t2⟩ := kd3 ht
    rw [b_X4_pass_4, hC, if_neg (nI_ge (by omega) (by omega)), if_neg (show ¬ (6 : Int32) ≤ nI p from nI_ge (b := 6) (by omega) (by decide)), gd_t (by rw [n_4_4 (kd4 h1 h3)]; exact inb_nI (by omega) (by decide)), nI_clamp (by omega), hni, h0]
    show ∃ M', gd (isK (slx wi p) 2) (bd2 (f_X2_walk N (slx wi p) t (nI night) w M) fun r34 M34 => b_X4_pass_4 N wi t fu (nI (sumF (fun q => (walkS x night w (σf q)).1) p) + r34) (nI p + 1) M34) = _ ∧ _
    rw [gd_t (isK_t ki)]
    obtain ⟨M1, e1, s1, m1, -⟩ := walk_c w hN ht ki hSp (hwf p (by omega)) hT hx hn
    rw [e1, bd2_s, nI_1, nI_add]
    have m1x := m1.mx
    have m1' : Mx (fun a => inW wi a ∨ a = 70) M M1 := m1x.wk (fun a ha => by
      rcases ha with rfl | rfl
      · exact Or.inl (Or.inr (Or.inl (by omega)))
      · exact Or.inr rfl)
    obtain ⟨M', a1, a2, a3, a4, a5, a6⟩ := ih fu (p + 1) M1 (by omega) (by omega) (by rw [(m1x wi (by omega)).2.1]; exact h0) (by rw [(m1x wi (by omega)).1]; exact hni) (by rw [(m1x wi (by omega)).1]; exact hC) (hT.md ht m1) (fun q hq => by
        by_cases hqp : q = p
        · subst hqp
          rw [if_neg (by omega)]
          exact s1
        · have := slx_eq h1 h3 q
          have h := (hS q hq).mx m1x (by omega) (by omega)
          by_cases h2 : p ≤ q
          · rw [if_pos (by omega)]
            rw [if_pos h2] at h
            exact h
          · rw [if_neg (by omega)]
            rw [if_neg h2] at h
            exact h)
    exact ⟨M', a1, a2, a3, a4, fun k hk => (a5 k hk).trans ((m1x wi (by omega)).1 k), m1'.tr a6⟩
theorem pass_c {N wi t cnt night law : Nat} {w : Int64} {x : Txt} {M : Mem} {σf : Nat → Sl} (hN : 160 < N) (h1 : 1 ≤ wi) (h3 : wi ≤ 3) (hc : cnt ≤ 6) (ht : kd t = 3) (hx : wfT x) (hn : night < 100000) (hwf : ∀ q, q < cnt → wfS (σf q)) (hW : WC M wi cnt σf w night law) (hT : RTc M t x) :
    ∃ M', f_X4_pass N wi t M = some (nI (sumF (fun q => (walkS x night w (σf q)).1) cnt), M') ∧ WC M' wi cnt (fun q => (walkS x night w (σf q)).2.1) w (night + 1) law ∧ Mx (fun a => inW wi a ∨ a = 70) M M' := by
  obtain ⟨k0, k1, k2, k3, k4⟩ := hW
  obtain ⟨M', a1, a2, a3, a4, a5, a6⟩ := pass_loop_c (N := N) (t := t) (x := x) hN h1 h3 hc ht hx hn σf hwf cnt N 0 M (by omega) (by omega) k0 k1 k3 hT (fun q hq => by rw [if_pos (Nat.zero_le _)]; exact k4 q hq)
  exact ⟨M', a1, ⟨a3, a4, (a5 2 (by decide)).trans k2, (a5 3 (by decide)).trans k3, a2⟩, a6⟩
/-- the texts: of these places is the law -/
def TC (M : Mem) (tx : Nat) (tf : Nat → Txt) : Prop := ∀ i, i < tx → RTc M (46 + i) (tf i)
theorem kd_t {i : Nat} (h : i < 6) : kd (46 + i) = 3 := by
  unfold kd
  rw [if_neg (by omega), if_neg (by omega), if_neg (by omega), if_neg (by omega), if_neg (by omega), if_neg (by omega), if_pos (by omega)]
theorem textN_c {M : Mem} {i : Nat} (h : i < 6) : f_X5_textNumbered (nI i) M = some (46 + i) := by
  unfold f_X5_textNumbered b_X5_textNumbered_0
  rw [if_neg (nI_pos (by omega)), if_neg (show ¬ (6 : Int32) ≤ nI i from nI_ge (b := 6) h (by decide)), gdn (n := len 45) (show i < 6 from h) (by decide), nI_clamp (by omega)]
  rfl
theorem theLaw_c {M : Mem} {law : Nat} (h : law < 6) (hl : FI M 1 2 = nI law) : f_X5_theLaw M = some (46 + law) := by
  unfold f_X5_theLaw b_X5_theLaw_0
  rw [hl, textN_c h, bind_some_]
theorem TC.mx {P : Nat → Prop} {M M' : Mem} {tx : Nat} {tf : Nat → Txt} (h : TC M tx tf) (hm : Mx P M M') (h0 : tx ≤ 6) (h1 : ∀ a, 52 ≤ a → a < 70 → ¬ P a) : TC M' tx tf := fun i hi => (h i hi).mx hm (h1 _ (by omega) (by omega)) (h1 _ (by omega) (by omega)) (h1 _ (by omega) (by omega))
/-- k nights of all, from a night on -/
def wN (x : Txt) (w : Int64) (cnt : Nat) : Nat → Nat → (Nat → Sl) → Nat × (Nat → Sl)
  | 0, _, σf => (0, σf)
  | k + 1, night, σf => (sumF (fun q => (walkS x night w (σf q)).1) cnt + (wN x w cnt k (night + 1) (fun q => (walkS x night w (σf q)).2.1)).1, (wN x w cnt k (night + 1) (fun q => (walkS x night w (σf q)).2.1)).2)
/-- k nights of one -/
def itN (x : Txt) (w : Int64) : Nat → Nat → Sl → Sl × Int64
  | 0, _, σ => (σ, 0)
  | k + 1, night, σ => ((itN x w k (night + 1) (walkS x night w σ).2.1).1, (walkS x night w σ).2.2 ||| (itN x w k (night + 1) (walkS x night w σ).2.1).2)
theorem wN_it {x : Txt} {w : Int64} {cnt : Nat} : ∀ (k night : Nat) (σf : Nat → Sl) (q : Nat), (wN x w cnt k night σf).2 q = (itN x w k night (σf q)).1
  | 0, _, _, _ => rfl
  | k + 1, night, σf, q => wN_it k (night + 1) (fun q => (walkS x night w (σf q)).2.1) q
theorem wf_it {x : Txt} {w : Int64} : ∀ (k night : Nat) {σ : Sl}, wfS σ → wfS (itN x w k night σ).1
  | 0, _, _, h => h
  | k + 1, night, _, h => wf_it k (night + 1) (wf_walk h)
theorem wN_le {x : Txt} {w : Int64} {cnt : Nat} (hc : cnt ≤ 6) : ∀ (k night : Nat) (σf : Nat → Sl), (∀ q, q < cnt → wfS (σf q)) → (wN x w cnt k night σf).1 ≤ k * 246
  | 0, _, _, _ => by simp [wN]
  | k + 1, night, σf, h => by
    have h1 := wN_le (x := x) (w := w) hc k (night + 1) (fun q => (walkS x night w (σf q)).2.1) (fun q hq => wf_walk (h q hq))
    have h2 := sumF_le (f := fun q => (walkS x night w (σf q)).1) (c := 41) cnt (fun q hq => walk_le (h q hq))
    have h3 : cnt * 41 ≤ 246 := by omega
    show _ + _ ≤ _
    rw [Nat.succ_mul]
    omega
theorem passN_loop_c {N n cnt law tx : Nat} {w : Int64} {tf : Nat → Txt} (hN : 160 < N) (hc : cnt ≤ 6) (hl : law < tx) (htx : tx ≤ 6) (hxf : ∀ i, i < tx → wfT (tf i)) (hn100 : n ≤ 100) : ∀ (m fu d night acc : Nat) (M : Mem) (σf : Nat → Sl), m < fu → d + m = n → night + m < 100000 → acc ≤ d * 246 → (∀ q, q < cnt → wfS (σf q)) → FI M 1 2 = nI law → TC M tx tf → WC M 2 cnt σf w night law →
    ∃ M', b_X5_passNights_4 N (nI n) fu (nI acc) (nI d) M = some (nI (acc + (wN (tf law) w cnt m night σf).1), M') ∧ WC M' 2 cnt (wN (tf law) w cnt m night σf).2 w (night + m) law ∧ Mx (fun a => inW 2 a ∨ a = 70) M M' := by
  intro m
  induction m with
  | zero =>
    intro fu d night acc M σf hf hd hni hac hwf hl1 hT hW
    obtain ⟨fu, rfl⟩ : ∃ z, fu = z + 1 := ⟨fu - 1, by omega⟩
    rw [b_X5_passNights_4, if_pos (nI_le (by omega) (by omega))]
    exact ⟨M, rfl, hW, Mx.rf _ _⟩
  | succ m ih =>
    intro fu d night acc M σf hf hd hni hac hwf hl1 hT hW
    obtain ⟨fu, rfl⟩ : ∃ z, fu = z + 1 := ⟨fu - 1, by omega⟩
    rw [b_X5_passNights_4, if_neg (nI_ge (by omega) (by omega)), theLaw_c (by omega) hl1, bind_some_, gd_t (isK_t (kd_t (by omega)))]
    obtain ⟨M1, e1, W1, m1⟩ := pass_c (N := N) (t := 46 + law) hN (by decide : 1 ≤ 2) (by decide) hc (kd_t (by omega)) (hxf law hl) (by omega) hwf hW (hT law hl)
    rw [e1, bd2_s, nI_1, nI_add]
    have h2 := sumF_le (f := fun q => (walkS (tf law) night w (σf q)).1) (c := 41) cnt (fun q hq => walk_le (hwf q hq))
    have h3 : cnt * 41 ≤ 246 := by omega
    obtain ⟨M', a1, a2, a3⟩ := ih fu (d + 1) (night + 1) _ M1 (fun q => (walkS (tf law) night w (σf q)).2.1) (by omega) (by omega) (by omega) (by rw [Nat.succ_mul]; exact Nat.add_le_add hac (Nat.le_trans h2 h3)) (fun q hq => wf_walk (hwf q hq)) (by rw [(m1 1 (by unfold inW; omega)).1]; exact hl1) (hT.mx m1 htx (fun a h1 h2 => by unfold inW; omega)) W1
    refine ⟨M', ?_, by rw [show night + (m + 1) = night + 1 + m by omega]; exact a2, m1.tr a3⟩
    rw [a1, Nat.add_assoc]
    rfl
theorem passNights_c {N n cnt law tx night : Nat} {w : Int64} {tf : Nat → Txt} {M : Mem} {σf : Nat → Sl} (hN : 160 < N) (hc : cnt ≤ 6) (hl : law < tx) (htx : tx ≤ 6) (hxf : ∀ i, i < tx → wfT (tf i)) (hn100 : n ≤ 100) (hni : night < 10000) (hwf : ∀ q, q < cnt → wfS (σf q)) (hl1 : FI M 1 2 = nI law) (hT : TC M tx tf) (hW : WC M 2 cnt σf w night law) :
    ∃ M', f_X5_passNights N (nI n) M = some (nI (wN (tf law) w cnt n night σf).1, M') ∧ WC M' 2 cnt (wN (tf law) w cnt n night σf).2 w (night + n) law ∧ Mx (fun a => inW 2 a ∨ a = 70) M M' := by
  obtain ⟨M', a1, a2, a3⟩ := passN_loop_c (N := N) hN hc hl htx hxf hn100 n N 0 night 0 M σf (by omega) (by omega) (by omega) (by omega) hwf hl1 hT hW
  rw [Nat.zero_add] at a1
  exact ⟨M', a1, a2, a3⟩
theorem walkN_loop_c {N n law tx : Nat} {w : Int64} {tf : Nat → Txt} (hN : 160 < N) (hl : law < tx) (htx : tx ≤ 6) (hxf : ∀ i, i < tx → wfT (tf i)) (hn100 : n ≤ 100) {night0 : Nat} (hn0 : night0 < 10000) : ∀ (m fu d : Nat) (M : Mem) (σ : Sl), m < fu → d + m = n → wfS σ → FI M 1 2 = nI law → FI M 1 1 = nI night0 → FJ M 1 0 = w → TC M tx tf → RS M 4 σ →
    ∃ M', b_X5_walkNights_2 N (nI n) fu (nI d) M = some M' ∧ RS M' 4 (itN (tf law) w m (night0 + d) σ).1 ∧ FJ M' 4 8 = FJ M 4 8 ||| (itN (tf law) w m (night0 + d) σ).2 ∧ Mx (fun a => a = 4 ∨ a = 70) M M' := by
  intro m
  induction m with
  | zero =>
    intro fu d M σ hf hd hwf hl1 hni hw hT hS
    obtain ⟨fu, rfl⟩ : ∃ z, fu = z + 1 := ⟨fu - 1, by omega⟩
    rw [b_X5_walkNights_2, if_pos (nI_le (by omega) (by omega))]
    refine ⟨M, rfl, hS, ?_, Mx.rf _ _⟩
    show _ = _ ||| (0 : Int64)
    rw [Int64.or_zero]
  | succ m ih =>
    intro fu d M σ hf hd hwf hl1 hni hw hT hS
    obtain ⟨fu, rfl⟩ : ∃ z, fu = z + 1 := ⟨fu - 1, by omega⟩
    rw [b_X5_walkNights_2, if_neg (nI_ge (by omega) (by omega)), theLaw_c (by omega) hl1, bind_some_, gd_t (isK_t (kd_t (by omega))), hni, hw, nI_add]
    obtain ⟨M1, e1, s1, m1, j1⟩ := walk_c (N := N) (t := 46 + law) (night := night0 + d) w hN (kd_t (by omega)) (show kd 4 = 2 from rfl) hS hwf (hT law hl) (hxf law hl) (by omega)
    rw [e1, bd2_s, nI_1]
    have m1x := m1.mx
    obtain ⟨M', a1, a2, a3, a4⟩ := ih fu (d + 1) M1 _ (by omega) (by omega) (wf_walk hwf) (by rw [(m1x 1 (by omega)).1]; exact hl1) (by rw [(m1x 1 (by omega)).1]; exact hni) (by rw [(m1x 1 (by omega)).2.1]; exact hw) (hT.mx m1x htx (fun a h1 h2 => by omega)) s1
    refine ⟨M', a1, a2, ?_, m1x.tr a4⟩
    rw [a3, j1]
    exact Int64.or_assoc _ _ _
theorem walkNights_c {N n law tx night : Nat} {w : Int64} {tf : Nat → Txt} {M : Mem} {σ : Sl} (hN : 160 < N) (hl : law < tx) (htx : tx ≤ 6) (hxf : ∀ i, i < tx → wfT (tf i)) (hn100 : n ≤ 100) (hn0 : night < 10000) (hwf : wfS σ) (hl1 : FI M 1 2 = nI law) (hni : FI M 1 1 = nI night) (hw : FJ M 1 0 = w) (hT : TC M tx tf) (hS : RS M 4 σ) :
    ∃ M', f_X5_walkNights N (nI n) M = some M' ∧ RS M' 4 (itN (tf law) w n night σ).1 ∧ FJ M' 4 8 = FJ M 4 8 ||| (itN (tf law) w n night σ).2 ∧ Mx (fun a => a = 4 ∨ a = 70) M M' :=
  walkN_loop_c hN hl htx hxf hn100 hn0 n N 0 M σ (by omega) (by omega) hwf hl1 hni hw hT hS
