/-! L2: one's night: what it is, and the class -/
def mkS (kind more cell way next wet wool : Nat) (sock : List Nat) : Sl := (kind, more, cell, way, next, wet, wool, sock)
theorem bnd0 (v : Int32) : ∃ n, n ≤ 20 ∧ bnd 0 v = nI n := by
  unfold bnd
  rw [if_pos rfl]
  by_cases h1 : v < 0
  · rw [if_pos h1]; exact ⟨0, by omega, rfl⟩
  · rw [if_neg h1]
    by_cases h2 : (20 : Int32) < v
    · rw [if_pos h2]; exact ⟨20, by omega, rfl⟩
    · rw [if_neg h2]
      obtain ⟨n, h3, rfl⟩ := nI_of2 (M := 20) (n := 20) rfl h1 (nlt_le h2)
      exact ⟨n, h3, rfl⟩
theorem bnd2 (v : Int32) : ∃ n, n ≤ 99 ∧ bnd 2 v = nI n := by
  unfold bnd
  rw [if_neg (by decide), if_neg (by decide)]
  by_cases h1 : v < 0
  · rw [if_pos h1]; exact ⟨0, by omega, rfl⟩
  · rw [if_neg h1]
    by_cases h2 : (99 : Int32) < v
    · rw [if_pos h2]; exact ⟨99, by omega, rfl⟩
    · rw [if_neg h2]
      obtain ⟨n, h3, rfl⟩ := nI_of2 (M := 99) (n := 99) rfl h1 (nlt_le h2)
      exact ⟨n, h3, rfl⟩
def askN (x : Txt) (σ : Sl) (p : Nat) : Nat := (ask x σ p).toNatClampNeg
theorem ask_0 (x : Txt) (σ : Sl) : ask x σ 0 = nI (askN x σ 0) ∧ askN x σ 0 ≤ 20 := by
  obtain ⟨n, h1, h2⟩ := bnd0 (evP (nm σ) (tP x 0))
  have h3 : ask x σ 0 = nI n := h2
  unfold askN
  rw [h3, nI_clamp (by omega)]
  exact ⟨rfl, h1⟩
theorem ask_2 (x : Txt) (σ : Sl) : ask x σ 2 = nI (askN x σ 2) ∧ askN x σ 2 ≤ 99 := by
  obtain ⟨n, h1, h2⟩ := bnd2 (evP (nm σ) (tP x 2))
  have h3 : ask x σ 2 = nI n := h2
  unfold askN
  rw [h3, nI_clamp (by omega)]
  exact ⟨rfl, h1⟩
def goesS (x : Txt) (σ : Sl) : Nat :=
  let v := askN x σ 0
  let q := if kL σ = 0 then 0 else v
  if kK σ = 1 then 2 * q % (kM σ + 1) else if kK σ = 3 then 2 * q % (kM σ + 1) + 1 else if kK σ = 2 ∨ kK σ = 4 then min q (1 + kL σ / 10) else if kK σ = 5 then min v (kM σ) else q
def wearsS (x : Txt) (night : Nat) (σ : Sl) : Nat :=
  let v := askN x σ 2
  if kK σ = 2 then v + kM σ else if kK σ = 3 then (if night % 3 = 0 then v else 0) else if kK σ = 4 then 0 else if kK σ = 5 then 2 * v else v
def mindsS (x : Txt) (σ : Sl) : Int32 :=
  let v := ask x σ 1
  if kK σ = 1 ∨ kK σ = 3 then v + 10 else if kK σ = 4 then (if kM σ < kT σ then v else 0) else v
theorem goesS_le {x : Txt} {σ : Sl} (h : wfS σ) : goesS x σ ≤ 41 := by
  have := (ask_0 x σ).2
  have h1 : kM σ < 10 := h.2.1
  have h2 := Nat.mod_lt (2 * (if kL σ = 0 then 0 else askN x σ 0)) (show 0 < kM σ + 1 by omega)
  unfold goesS
  dsimp only
  split
  · omega
  · split
    · omega
    · split
      · have hq : (if kL σ = 0 then 0 else askN x σ 0) ≤ 20 := by split <;> omega
        have := Nat.min_le_left (if kL σ = 0 then 0 else askN x σ 0) (1 + kL σ / 10)
        omega
      · split
        · have := Nat.min_le_left (askN x σ 0) (kM σ); omega
        · split <;> omega
theorem wearsS_le {x : Txt} {night : Nat} {σ : Sl} (h : wfS σ) : wearsS x night σ ≤ 198 := by
  have := (ask_2 x σ).2
  have h1 : kM σ < 10 := h.2.1
  unfold wearsS
  dsimp only
  repeat' split
  all_goals omega
def besN (c way : Nat) : Option Nat := if way = 0 then (if c % 8 + 1 < 8 then some (c + 1) else none) else if way = 1 then (if c / 8 + 1 < 8 then some (c + 8) else none) else if way = 2 then (if 0 < c % 8 then some (c - 1) else none) else if 0 < c / 8 then some (c - 8) else none
theorem besN_lt {c way d : Nat} (hc : c < 64) (h : besN c way = some d) : d < 64 := by
  unfold besN at h
  split at h
  · split at h
    · cases h; omega
    · cases h
  · split at h
    · split at h
      · cases h; omega
      · cases h
    · split at h
      · split at h
        · cases h; omega
        · cases h
      · split at h
        · cases h; omega
        · cases h
def wetB (w : Int64) (c : Nat) : Bool := decide (¬ (((w.toUInt64 >>> ((nI c).toInt64.toUInt64 &&& Int64.toUInt64 63)).toInt64) &&& (1 : Int64)) = 0)
def bitL (c : Nat) : Int64 := (1 : Int64) <<< ((nI c).toInt64 &&& 63)
def stepS (w : Int64) (σ : Sl) : Bool × Sl :=
  let st := (kS σ).getD (kN σ) 0
  let nx := if kN σ + 1 < (kS σ).length then kN σ + 1 else 0
  let way' := if st = 1 then (kW σ + 3) % 4 else if st = 2 then (kW σ + 1) % 4 else kW σ
  if st = 3 then (false, mkS (kK σ) (kM σ) (kC σ) (kW σ) nx (kT σ) (kL σ) (kS σ)) else
    match besN (kC σ) way' with
    | none => (false, mkS (kK σ) (kM σ) (kC σ) way' nx (kT σ) (kL σ) (kS σ))
    | some c => if st ≠ 4 ∧ wetB w c = true then (false, mkS (kK σ) (kM σ) (kC σ) way' nx (min 99 (kT σ + 1)) (kL σ) (kS σ)) else (true, mkS (kK σ) (kM σ) c way' nx (kT σ) (kL σ) (kS σ))
def goS (w : Int64) : Nat → Sl → Nat × Sl × Int64
  | 0, σ => (0, σ, 0)
  | n + 1, σ => if (stepS w σ).1 = true then ((goS w n (stepS w σ).2).1 + 1, (goS w n (stepS w σ).2).2.1, bitL (kC (stepS w σ).2) ||| (goS w n (stepS w σ).2).2.2) else (0, (stepS w σ).2, 0)
def walkS (x : Txt) (night : Nat) (w : Int64) (σ : Sl) : Nat × Sl × Int64 :=
  let r := goS w (goesS x σ) σ
  (r.1, mkS (kK r.2.1) (kM r.2.1) (kC r.2.1) (kW r.2.1) (kN r.2.1) (kT r.2.1) (kL r.2.1 - wearsS x night σ) (kS r.2.1), r.2.2)
theorem wf_step {w : Int64} {σ : Sl} (h : wfS σ) : wfS (stepS w σ).2 := by
  obtain ⟨w0, w1, w2, w3, w4, w5, w6, w7, w8⟩ := h
  have hn : (if kN σ + 1 < (kS σ).length then kN σ + 1 else 0) < (kS σ).length := by split <;> omega
  have hw : (if (kS σ).getD (kN σ) 0 = 1 then (kW σ + 3) % 4 else if (kS σ).getD (kN σ) 0 = 2 then (kW σ + 1) % 4 else kW σ) < 4 := by
    split
    · omega
    · split <;> omega
  unfold stepS
  dsimp only
  split
  · exact ⟨w0, w1, w2, w3, hn, w5, w6, w7, w8⟩
  · split
    · exact ⟨w0, w1, w2, hw, hn, w5, w6, w7, w8⟩
    · next c hc =>
      have := besN_lt w2 hc
      split
      · exact ⟨w0, w1, w2, hw, hn, Nat.min_le_left _ _, w6, w7, w8⟩
      · exact ⟨w0, w1, this, hw, hn, w5, w6, w7, w8⟩
theorem wf_go {w : Int64} : ∀ (n : Nat) {σ : Sl}, wfS σ → wfS (goS w n σ).2.1
  | 0, _, h => h
  | n + 1, σ, h => by
    unfold goS
    split
    · exact wf_go n (wf_step h)
    · exact wf_step h
theorem wf_walk {x : Txt} {night : Nat} {w : Int64} {σ : Sl} (h : wfS σ) : wfS (walkS x night w σ).2.1 := by
  obtain ⟨w0, w1, w2, w3, w4, w5, w6, w7, w8⟩ := wf_go (w := w) (goesS x σ) h
  exact ⟨w0, w1, w2, w3, w4, w5, by show kL _ - _ ≤ 99; omega, w7, w8⟩
theorem go_le {w : Int64} : ∀ (n : Nat) (σ : Sl), (goS w n σ).1 ≤ n
  | 0, _ => Nat.le_refl _
  | n + 1, σ => by
    unfold goS
    split
    · have := go_le (w := w) n (stepS w σ).2
      show _ + 1 ≤ _
      omega
    · exact Nat.zero_le _
theorem walk_le {x : Txt} {night : Nat} {w : Int64} {σ : Sl} (h : wfS σ) : (walkS x night w σ).1 ≤ 41 := Nat.le_trans (go_le _ _) (goesS_le h)
/-- M' is M but for the object a's own numbers, and the stack -/
def Md (M M' : Mem) (a : Nat) : Prop := (∀ b, b ≠ a → ∀ k, FI M' b k = FI M b k) ∧ (∀ b, b ≠ a → ∀ k, FJ M' b k = FJ M b k) ∧ (∀ b, b ≠ 70 → AI M' b = AI M b) ∧ RF M' = RF M
theorem Md.rf (M : Mem) (a : Nat) : Md M M a := ⟨fun _ _ _ => rfl, fun _ _ _ => rfl, fun _ _ => rfl, rfl⟩
theorem Md.tr {M M1 M2 : Mem} {a : Nat} (h : Md M M1 a) (h2 : Md M1 M2 a) : Md M M2 a := ⟨fun b hb k => (h2.1 b hb k).trans (h.1 b hb k), fun b hb k => (h2.2.1 b hb k).trans (h.2.1 b hb k), fun b hb => (h2.2.2.1 b hb).trans (h.2.2.1 b hb), h2.2.2.2.trans h.2.2.2⟩
theorem Md.st (M : Mem) (a : Nat) (g : Nat → Int32) : Md M (rAI M 70 g) a := ⟨fun _ _ _ => rfl, fun _ _ _ => rfl, fun _ hb => AI_rAI_n _ _ hb, rfl⟩
theorem Md.fi (M : Mem) (a k : Nat) (v : Int32) : Md M (sFI M a k v) a := ⟨fun b hb j => by rw [FI_sFI, if_neg (fun q => hb q.1)], fun _ _ _ => rfl, fun _ _ => rfl, rfl⟩
theorem Md.fj (M : Mem) (a k : Nat) (v : Int64) : Md M (sFJ M a k v) a := ⟨fun _ _ _ => rfl, fun b hb j => by rw [FJ_sFJ, if_neg (fun q => hb q.1)], fun _ _ => rfl, rfl⟩
theorem RS.st {M : Mem} {a : Nat} {σ : Sl} (h : RS M a σ) (ha : kd a = 2) (g : Nat → Int32) : RS (rAI M 70 g) a σ := by
  obtain ⟨r0, r1, r2, r3, r4, r5, r6, r7, r8⟩ := h
  have := kd2 ha
  exact ⟨r0, r1, r2, r3, r4, r5, r6, r7, fun k hk => by rw [AI_rAI_n _ _ (by omega)]; exact r8 k hk⟩
theorem RTc.st {M : Mem} {t : Nat} {x : Txt} (h : RTc M t x) (ht : kd t = 3) (g : Nat → Int32) : RTc (rAI M 70 g) t x := by
  have := kd3 ht
  refine ⟨fun p hp k hk => ?_, fun p hp => ?_⟩
  · rw [AI_rAI_n _ _ (show t + 6 ≠ 70 by omega), AI_rAI_n _ _ (show t + 12 ≠ 70 by omega)]
    exact h.1 p hp k hk
  · rw [AI_rAI_n _ _ (show t + 18 ≠ 70 by omega)]
    exact h.2 p hp
theorem RTc.md {M M' : Mem} {t a : Nat} {x : Txt} (h : RTc M t x) (ht : kd t = 3) (hm : Md M M' a) : RTc M' t x := by
  have := kd3 ht
  refine ⟨fun p hp k hk => ?_, fun p hp => ?_⟩
  · rw [hm.2.2.1 _ (show t + 6 ≠ 70 by omega), hm.2.2.1 _ (show t + 12 ≠ 70 by omega)]
    exact h.1 p hp k hk
  · rw [hm.2.2.1 _ (show t + 18 ≠ 70 by omega)]
    exact h.2 p hp
theorem ite_min {a b : Nat} (ha : a < 2 ^ 31) (hb : b < 2 ^ 31) : (if nI b < nI a then nI b else nI a) = nI (min a b) := by
  rw [itLt hb ha]
  split
  · rw [Nat.min_eq_right (by omega)]
  · rw [Nat.min_eq_left (by omega)]
theorem goes_c {N t a : Nat} {σ : Sl} {M : Mem} {x : Txt} (hN : 160 < N) (ht : kd t = 3) (ha : kd a = 2) (hS : RS M a σ) (hw : wfS σ) (hT : RTc M t x) (hx : wfT x) : ∃ g, f_X2_goesBy N a t M = some (nI (goesS x σ), rAI M 70 g) := by
  obtain ⟨g, h1⟩ := says_c hN (by decide : 0 < 3) ht ha hS hw hT hx
  obtain ⟨v1, v2⟩ := ask_0 x σ
  obtain ⟨w0, w1, w2, w3, w4, w5, w6, w7, w8⟩ := hw
  obtain ⟨r0, r1, r2, r3, r4, r5, r6, r7, r8⟩ := hS.st ha g
  refine ⟨g, ?_⟩
  unfold f_X2_goesBy b_X2_goesBy_0
  rw [show (0 : Int32) = nI 0 from rfl, h1, bd2_s, r6, v1]
  have e0 : (if nI (kL σ) = nI 0 then b_X2_goesBy_19 N a t (nI (askN x σ 0)) (nI 0) (rAI M 70 g) else b_X2_goesBy_19 N a t (nI (askN x σ 0)) (nI (askN x σ 0)) (rAI M 70 g)) = b_X2_goesBy_19 N a t (nI (askN x σ 0)) (nI (if kL σ = 0 then 0 else askN x σ 0)) (rAI M 70 g) := by
    rw [itEq (by omega) (by decide)]
    split <;> rfl
  rw [e0]
  have hq : (if kL σ = 0 then 0 else askN x σ 0) ≤ 20 := by split <;> omega
  unfold goesS
  dsimp only
  generalize (if kL σ = 0 then 0 else askN x σ 0) = q at hq
  have baby : f_X2_goesAsBaby a (nI q) (rAI M 70 g) = some (nI (2 * q % (kM σ + 1))) := by
    unfold f_X2_goesAsBaby b_X2_goesAsBaby_0
    rw [r1, nI_1, if_neg (nI_nle (by omega) (by omega)), gd_t (decide_eq_true (nI_ne0 (by omega) (by omega))), show (2 : Int32) = nI 2 from rfl, pk_mul, remI (by omega) (by omega) (by omega)]
  have old : b_X2_goesBy_74 N a t (nI q) (rAI M 70 g) = some (nI (min q (1 + kL σ / 10)), rAI M 70 g) := by
    unfold b_X2_goesBy_74
    rw [r6, show (10 : Int32) = nI 10 from rfl, pk_div (by omega) (by decide) (by decide), show (1 : Int32) = nI 1 from rfl, nI_add, ite_min (by omega) (by omega)]
  unfold b_X2_goesBy_19
  rw [r0]
  have e : kK σ = 0 ∨ kK σ = 1 ∨ kK σ = 2 ∨ kK σ = 3 ∨ kK σ = 4 ∨ kK σ = 5 := by omega
  rcases e with e | e | e | e | e | e <;> rw [e] <;> simp (decide := true) only [if_true, if_false, reduceIte]
  · rw [baby]; rfl
  · rw [old]
  · rw [baby, bind_some_, nI_1]
  · rw [old]
  · rw [r1, ite_min (by omega) (by omega)]
theorem wears_c {N t a night : Nat} {σ : Sl} {M : Mem} {x : Txt} (hN : 160 < N) (ht : kd t = 3) (ha : kd a = 2) (hS : RS M a σ) (hw : wfS σ) (hT : RTc M t x) (hx : wfT x) (hn : night < 100000) : ∃ g, f_X2_wearsBy N a t (nI night) M = some (nI (wearsS x night σ), rAI M 70 g) := by
  obtain ⟨g, h1⟩ := says_c hN (by decide : 2 < 3) ht ha hS hw hT hx
  obtain ⟨v1, v2⟩ := ask_2 x σ
  obtain ⟨w0, w1, w2, w3, w4, w5, w6, w7, w8⟩ := hw
  obtain ⟨r0, r1, r2, r3, r4, r5, r6, r7, r8⟩ := hS.st ha g
  refine ⟨g, ?_⟩
  unfold f_X2_wearsBy b_X2_wearsBy_0
  rw [show (2 : Int32) = nI 2 from rfl, h1, bd2_s, r0, r1, v1]
  unfold wearsS
  dsimp only
  have e3 : nI night - nI night / 3 * 3 = nI (night % 3) := remI (d := 3) (by omega) (by decide) (by decide)
  have e : kK σ = 0 ∨ kK σ = 1 ∨ kK σ = 2 ∨ kK σ = 3 ∨ kK σ = 4 ∨ kK σ = 5 := by omega
  rcases e with e | e | e | e | e | e <;> rw [e] <;> simp (decide := true) only [if_true, if_false, reduceIte]
  · rw [nI_add]
  · rw [e3, show ((0 : Int32)) = nI 0 from rfl, itEq (by omega) (by decide)]
    split <;> rfl
  · rfl
  · rw [pk_mul]
theorem minds_c {N t a : Nat} {σ : Sl} {M : Mem} {x : Txt} (hN : 160 < N) (ht : kd t = 3) (ha : kd a = 2) (hS : RS M a σ) (hw : wfS σ) (hT : RTc M t x) (hx : wfT x) : ∃ g, f_X2_mindsBy N a t M = some (mindsS x σ, rAI M 70 g) := by
  obtain ⟨g, h1⟩ := says_c hN (by decide : 1 < 3) ht ha hS hw hT hx
  obtain ⟨w0, w1, w2, w3, w4, w5, w6, w7, w8⟩ := hw
  obtain ⟨r0, r1, r2, r3, r4, r5, r6, r7, r8⟩ := hS.st ha g
  refine ⟨g, ?_⟩
  unfold f_X2_mindsBy b_X2_mindsBy_0 b_X2_mindsBy_40
  rw [show (1 : Int32) = nI 1 from rfl, h1, bd2_s, r0, r1, r5]
  unfold mindsS
  dsimp only
  have e : kK σ = 0 ∨ kK σ = 1 ∨ kK σ = 2 ∨ kK σ = 3 ∨ kK σ = 4 ∨ kK σ = 5 := by omega
  rcases e with e | e | e | e | e | e <;> rw [e] <;> simp (decide := true) only [if_true, if_false, reduceIte]
  rw [itLe (by omega) (by omega)]
  by_cases q : kM σ < kT σ
  · rw [if_pos q, if_neg (by omega)]
  · rw [if_neg q, if_pos (by omega)]
