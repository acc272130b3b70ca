/-! L3: the law's cases, one by one -/
theorem lg_cmp_rf (x : Int64) : lg_cmp x x = 0 := by
  unfold lg_cmp
  rw [if_neg (fun z => Int64.lt_irrefl z), if_pos rfl]
section LAW
variable {p : Program} {l : Launch} {e : Env} {s : State} {m : MethodId} {below : List Frame} {meth : Method} {c : Code} {Q : State → Prop} {D : va_G} {cy : Nat → ClassId} {zz : (Nat → Nat) × (Nat → Nat)} {b L : Nat} {xs : Nat → Int32} {cells slots : Nat}
theorem ld_s (C : CW p s m #[Value.ref b] meth c cL_law 4 RL D cy zz (fun q => s.heap.size ≤ q)) (hX : va_X b L xs s s.heap) (hbl : b < s.heap.size) {H : Heap} {locs : List Loc} (hS : va_S (fun q => s.heap.size ≤ q) s.heap H locs) (hL : L ≤ 3584) {pc j : Nat} {ls : Array Slot} {rest : List Value} (hj : j < L) {x : Int32} (hx : x = nI j) (hdg : decode cL_law pc = .ok (.iaload, 1)) (kk : W p l e room_1 s m #[Value.ref b] below meth c H locs cells slots Q (F0 m (pc + 1) ls (.int (xs j) :: rest))) : W p l e room_1 s m #[Value.ref b] below meth c H locs cells slots Q (F0 m pc ls (.int x :: .ref b :: rest)) := by
  subst hx
  have hcl : (nI j).toNatClampNeg = j := nI_clamp (by omega)
  refine va_sld C.1 C.2.1 hX hbl (Nat.not_le.mpr hbl) hS (fun z => ?_) hdg (by rw [hcl]; exact kk)
  rcases z with z | z
  · exact nI_pos (by omega) z
  · rw [hcl] at z
    omega
theorem evL_X5_alike : yX5_alike.cls = RX5 ∧ yX5_alike.cls ≠ "java/lang/invoke/MethodHandle" ∧ yX5_alike.cls ≠ "java/lang/invoke/VarHandle" ∧ (parseMethodDescriptor yX5_alike.desc).map (fun d => d.parameters.length) = some 3 := by decide +kernel
theorem evL_X5_anew : yX5_anew.cls = RX5 ∧ yX5_anew.cls ≠ "java/lang/invoke/MethodHandle" ∧ yX5_anew.cls ≠ "java/lang/invoke/VarHandle" ∧ (parseMethodDescriptor yX5_anew.desc).map (fun d => d.parameters.length) = some 4 := by decide +kernel
theorem evL_X5_asks : yX5_asks.cls = RX5 ∧ yX5_asks.cls ≠ "java/lang/invoke/MethodHandle" ∧ yX5_asks.cls ≠ "java/lang/invoke/VarHandle" ∧ (parseMethodDescriptor yX5_asks.desc).map (fun d => d.parameters.length) = some 2 := by decide +kernel
theorem evL_X5_back : yX5_back.cls = RX5 ∧ yX5_back.cls ≠ "java/lang/invoke/MethodHandle" ∧ yX5_back.cls ≠ "java/lang/invoke/VarHandle" ∧ (parseMethodDescriptor yX5_back.desc).map (fun d => d.parameters.length) = some 0 := by decide +kernel
theorem evL_X5_begins : yX5_begins.cls = RX5 ∧ yX5_begins.cls ≠ "java/lang/invoke/MethodHandle" ∧ yX5_begins.cls ≠ "java/lang/invoke/VarHandle" ∧ (parseMethodDescriptor yX5_begins.desc).map (fun d => d.parameters.length) = some 2 := by decide +kernel
theorem evL_X5_cell : yX5_cell.cls = RX5 ∧ yX5_cell.cls ≠ "java/lang/invoke/MethodHandle" ∧ yX5_cell.cls ≠ "java/lang/invoke/VarHandle" ∧ (parseMethodDescriptor yX5_cell.desc).map (fun d => d.parameters.length) = some 3 := by decide +kernel
theorem evL_X5_comes : yX5_comes.cls = RX5 ∧ yX5_comes.cls ≠ "java/lang/invoke/MethodHandle" ∧ yX5_comes.cls ≠ "java/lang/invoke/VarHandle" ∧ (parseMethodDescriptor yX5_comes.desc).map (fun d => d.parameters.length) = some 2 := by decide +kernel
theorem evL_X5_copy : yX5_copy.cls = RX5 ∧ yX5_copy.cls ≠ "java/lang/invoke/MethodHandle" ∧ yX5_copy.cls ≠ "java/lang/invoke/VarHandle" ∧ (parseMethodDescriptor yX5_copy.desc).map (fun d => d.parameters.length) = some 5 := by decide +kernel
theorem evL_X5_count : yX5_count.cls = RX5 ∧ yX5_count.cls ≠ "java/lang/invoke/MethodHandle" ∧ yX5_count.cls ≠ "java/lang/invoke/VarHandle" ∧ (parseMethodDescriptor yX5_count.desc).map (fun d => d.parameters.length) = some 1 := by decide +kernel
theorem evL_X5_darn : yX5_darn.cls = RX5 ∧ yX5_darn.cls ≠ "java/lang/invoke/MethodHandle" ∧ yX5_darn.cls ≠ "java/lang/invoke/VarHandle" ∧ (parseMethodDescriptor yX5_darn.desc).map (fun d => d.parameters.length) = some 3 := by decide +kernel
theorem evL_X5_drain : yX5_drain.cls = RX5 ∧ yX5_drain.cls ≠ "java/lang/invoke/MethodHandle" ∧ yX5_drain.cls ≠ "java/lang/invoke/VarHandle" ∧ (parseMethodDescriptor yX5_drain.desc).map (fun d => d.parameters.length) = some 2 := by decide +kernel
theorem evL_X5_drawn : yX5_drawn.cls = RX5 ∧ yX5_drawn.cls ≠ "java/lang/invoke/MethodHandle" ∧ yX5_drawn.cls ≠ "java/lang/invoke/VarHandle" ∧ (parseMethodDescriptor yX5_drawn.desc).map (fun d => d.parameters.length) = some 2 := by decide +kernel
theorem evL_X5_dusk : yX5_dusk.cls = RX5 ∧ yX5_dusk.cls ≠ "java/lang/invoke/MethodHandle" ∧ yX5_dusk.cls ≠ "java/lang/invoke/VarHandle" ∧ (parseMethodDescriptor yX5_dusk.desc).map (fun d => d.parameters.length) = some 1 := by decide +kernel
theorem evL_X5_feed : yX5_feed.cls = RX5 ∧ yX5_feed.cls ≠ "java/lang/invoke/MethodHandle" ∧ yX5_feed.cls ≠ "java/lang/invoke/VarHandle" ∧ (parseMethodDescriptor yX5_feed.desc).map (fun d => d.parameters.length) = some 6 := by decide +kernel
theorem evL_X5_film : yX5_film.cls = RX5 ∧ yX5_film.cls ≠ "java/lang/invoke/MethodHandle" ∧ yX5_film.cls ≠ "java/lang/invoke/VarHandle" ∧ (parseMethodDescriptor yX5_film.desc).map (fun d => d.parameters.length) = some 3 := by decide +kernel
theorem evL_X5_flood : yX5_flood.cls = RX5 ∧ yX5_flood.cls ≠ "java/lang/invoke/MethodHandle" ∧ yX5_flood.cls ≠ "java/lang/invoke/VarHandle" ∧ (parseMethodDescriptor yX5_flood.desc).map (fun d => d.parameters.length) = some 2 := by decide +kernel
theorem evL_X5_force : yX5_force.cls = RX5 ∧ yX5_force.cls ≠ "java/lang/invoke/MethodHandle" ∧ yX5_force.cls ≠ "java/lang/invoke/VarHandle" ∧ (parseMethodDescriptor yX5_force.desc).map (fun d => d.parameters.length) = some 1 := by decide +kernel
theorem evL_X5_image : yX5_image.cls = RX5 ∧ yX5_image.cls ≠ "java/lang/invoke/MethodHandle" ∧ yX5_image.cls ≠ "java/lang/invoke/VarHandle" ∧ (parseMethodDescriptor yX5_image.desc).map (fun d => d.parameters.length) = some 0 := by decide +kernel
theorem evL_X5_judge : yX5_judge.cls = RX5 ∧ yX5_judge.cls ≠ "java/lang/invoke/MethodHandle" ∧ yX5_judge.cls ≠ "java/lang/invoke/VarHandle" ∧ (parseMethodDescriptor yX5_judge.desc).map (fun d => d.parameters.length) = some 2 := by decide +kernel
theorem evL_X5_kinds : yX5_kinds.cls = RX5 ∧ yX5_kinds.cls ≠ "java/lang/invoke/MethodHandle" ∧ yX5_kinds.cls ≠ "java/lang/invoke/VarHandle" ∧ (parseMethodDescriptor yX5_kinds.desc).map (fun d => d.parameters.length) = some 3 := by decide +kernel
theorem evL_X5_knit : yX5_knit.cls = RX5 ∧ yX5_knit.cls ≠ "java/lang/invoke/MethodHandle" ∧ yX5_knit.cls ≠ "java/lang/invoke/VarHandle" ∧ (parseMethodDescriptor yX5_knit.desc).map (fun d => d.parameters.length) = some 2 := by decide +kernel
theorem evL_X5_laws : yX5_laws.cls = RX5 ∧ yX5_laws.cls ≠ "java/lang/invoke/MethodHandle" ∧ yX5_laws.cls ≠ "java/lang/invoke/VarHandle" ∧ (parseMethodDescriptor yX5_laws.desc).map (fun d => d.parameters.length) = some 2 := by decide +kernel
theorem evL_X5_meet : yX5_meet.cls = RX5 ∧ yX5_meet.cls ≠ "java/lang/invoke/MethodHandle" ∧ yX5_meet.cls ≠ "java/lang/invoke/VarHandle" ∧ (parseMethodDescriptor yX5_meet.desc).map (fun d => d.parameters.length) = some 2 := by decide +kernel
theorem evL_X5_night : yX5_night.cls = RX5 ∧ yX5_night.cls ≠ "java/lang/invoke/MethodHandle" ∧ yX5_night.cls ≠ "java/lang/invoke/VarHandle" ∧ (parseMethodDescriptor yX5_night.desc).map (fun d => d.parameters.length) = some 0 := by decide +kernel
theorem evL_X5_odds : yX5_odds.cls = RX5 ∧ yX5_odds.cls ≠ "java/lang/invoke/MethodHandle" ∧ yX5_odds.cls ≠ "java/lang/invoke/VarHandle" ∧ (parseMethodDescriptor yX5_odds.desc).map (fun d => d.parameters.length) = some 4 := by decide +kernel
theorem evL_X5_put : yX5_put.cls = RX5 ∧ yX5_put.cls ≠ "java/lang/invoke/MethodHandle" ∧ yX5_put.cls ≠ "java/lang/invoke/VarHandle" ∧ (parseMethodDescriptor yX5_put.desc).map (fun d => d.parameters.length) = some 3 := by decide +kernel
theorem evL_X5_run : yX5_run.cls = RX5 ∧ yX5_run.cls ≠ "java/lang/invoke/MethodHandle" ∧ yX5_run.cls ≠ "java/lang/invoke/VarHandle" ∧ (parseMethodDescriptor yX5_run.desc).map (fun d => d.parameters.length) = some 2 := by decide +kernel
theorem evL_X5_share : yX5_share.cls = RX5 ∧ yX5_share.cls ≠ "java/lang/invoke/MethodHandle" ∧ yX5_share.cls ≠ "java/lang/invoke/VarHandle" ∧ (parseMethodDescriptor yX5_share.desc).map (fun d => d.parameters.length) = some 2 := by decide +kernel
theorem evL_X5_sheet : yX5_sheet.cls = RX5 ∧ yX5_sheet.cls ≠ "java/lang/invoke/MethodHandle" ∧ yX5_sheet.cls ≠ "java/lang/invoke/VarHandle" ∧ (parseMethodDescriptor yX5_sheet.desc).map (fun d => d.parameters.length) = some 3 := by decide +kernel
theorem evL_X5_sleeper : yX5_sleeper.cls = RX5 ∧ yX5_sleeper.cls ≠ "java/lang/invoke/MethodHandle" ∧ yX5_sleeper.cls ≠ "java/lang/invoke/VarHandle" ∧ (parseMethodDescriptor yX5_sleeper.desc).map (fun d => d.parameters.length) = some 2 := by decide +kernel
theorem evL_X5_sleepersBy : yX5_sleepersBy.cls = RX5 ∧ yX5_sleepersBy.cls ≠ "java/lang/invoke/MethodHandle" ∧ yX5_sleepersBy.cls ≠ "java/lang/invoke/VarHandle" ∧ (parseMethodDescriptor yX5_sleepersBy.desc).map (fun d => d.parameters.length) = some 4 := by decide +kernel
theorem evL_X5_taken : yX5_taken.cls = RX5 ∧ yX5_taken.cls ≠ "java/lang/invoke/MethodHandle" ∧ yX5_taken.cls ≠ "java/lang/invoke/VarHandle" ∧ (parseMethodDescriptor yX5_taken.desc).map (fun d => d.parameters.length) = some 2 := by decide +kernel
theorem evL_X5_text : yX5_text.cls = RX5 ∧ yX5_text.cls ≠ "java/lang/invoke/MethodHandle" ∧ yX5_text.cls ≠ "java/lang/invoke/VarHandle" ∧ (parseMethodDescriptor yX5_text.desc).map (fun d => d.parameters.length) = some 0 := by decide +kernel
theorem evL_X5_told : yX5_told.cls = RX5 ∧ yX5_told.cls ≠ "java/lang/invoke/MethodHandle" ∧ yX5_told.cls ≠ "java/lang/invoke/VarHandle" ∧ (parseMethodDescriptor yX5_told.desc).map (fun d => d.parameters.length) = some 2 := by decide +kernel
theorem evL_X5_track : yX5_track.cls = RX5 ∧ yX5_track.cls ≠ "java/lang/invoke/MethodHandle" ∧ yX5_track.cls ≠ "java/lang/invoke/VarHandle" ∧ (parseMethodDescriptor yX5_track.desc).map (fun d => d.parameters.length) = some 2 := by decide +kernel
theorem evL_X5_turn : yX5_turn.cls = RX5 ∧ yX5_turn.cls ≠ "java/lang/invoke/MethodHandle" ∧ yX5_turn.cls ≠ "java/lang/invoke/VarHandle" ∧ (parseMethodDescriptor yX5_turn.desc).map (fun d => d.parameters.length) = some 3 := by decide +kernel
theorem evL_X5_ways : yX5_ways.cls = RX5 ∧ yX5_ways.cls ≠ "java/lang/invoke/MethodHandle" ∧ yX5_ways.cls ≠ "java/lang/invoke/VarHandle" ∧ (parseMethodDescriptor yX5_ways.desc).map (fun d => d.parameters.length) = some 3 := by decide +kernel
theorem evL_X5_whose : yX5_whose.cls = RX5 ∧ yX5_whose.cls ≠ "java/lang/invoke/MethodHandle" ∧ yX5_whose.cls ≠ "java/lang/invoke/VarHandle" ∧ (parseMethodDescriptor yX5_whose.desc).map (fun d => d.parameters.length) = some 1 := by decide +kernel
theorem evL_X6_alike : yX6_alike.cls = RX6 ∧ yX6_alike.cls ≠ "java/lang/invoke/MethodHandle" ∧ yX6_alike.cls ≠ "java/lang/invoke/VarHandle" ∧ (parseMethodDescriptor yX6_alike.desc).map (fun d => d.parameters.length) = some 3 := by decide +kernel
theorem evL_X6_anew : yX6_anew.cls = RX6 ∧ yX6_anew.cls ≠ "java/lang/invoke/MethodHandle" ∧ yX6_anew.cls ≠ "java/lang/invoke/VarHandle" ∧ (parseMethodDescriptor yX6_anew.desc).map (fun d => d.parameters.length) = some 4 := by decide +kernel
theorem evL_X6_asks : yX6_asks.cls = RX6 ∧ yX6_asks.cls ≠ "java/lang/invoke/MethodHandle" ∧ yX6_asks.cls ≠ "java/lang/invoke/VarHandle" ∧ (parseMethodDescriptor yX6_asks.desc).map (fun d => d.parameters.length) = some 2 := by decide +kernel
theorem evL_X6_back : yX6_back.cls = RX6 ∧ yX6_back.cls ≠ "java/lang/invoke/MethodHandle" ∧ yX6_back.cls ≠ "java/lang/invoke/VarHandle" ∧ (parseMethodDescriptor yX6_back.desc).map (fun d => d.parameters.length) = some 0 := by decide +kernel
theorem evL_X6_begins : yX6_begins.cls = RX6 ∧ yX6_begins.cls ≠ "java/lang/invoke/MethodHandle" ∧ yX6_begins.cls ≠ "java/lang/invoke/VarHandle" ∧ (parseMethodDescriptor yX6_begins.desc).map (fun d => d.parameters.length) = some 2 := by decide +kernel
theorem evL_X6_cell : yX6_cell.cls = RX6 ∧ yX6_cell.cls ≠ "java/lang/invoke/MethodHandle" ∧ yX6_cell.cls ≠ "java/lang/invoke/VarHandle" ∧ (parseMethodDescriptor yX6_cell.desc).map (fun d => d.parameters.length) = some 3 := by decide +kernel
theorem evL_X6_comes : yX6_comes.cls = RX6 ∧ yX6_comes.cls ≠ "java/lang/invoke/MethodHandle" ∧ yX6_comes.cls ≠ "java/lang/invoke/VarHandle" ∧ (parseMethodDescriptor yX6_comes.desc).map (fun d => d.parameters.length) = some 2 := by decide +kernel
theorem evL_X6_copy : yX6_copy.cls = RX6 ∧ yX6_copy.cls ≠ "java/lang/invoke/MethodHandle" ∧ yX6_copy.cls ≠ "java/lang/invoke/VarHandle" ∧ (parseMethodDescriptor yX6_copy.desc).map (fun d => d.parameters.length) = some 5 := by decide +kernel
theorem evL_X6_count : yX6_count.cls = RX6 ∧ yX6_count.cls ≠ "java/lang/invoke/MethodHandle" ∧ yX6_count.cls ≠ "java/lang/invoke/VarHandle" ∧ (parseMethodDescriptor yX6_count.desc).map (fun d => d.parameters.length) = some 1 := by decide +kernel
theorem evL_X6_darn : yX6_darn.cls = RX6 ∧ yX6_darn.cls ≠ "java/lang/invoke/MethodHandle" ∧ yX6_darn.cls ≠ "java/lang/invoke/VarHandle" ∧ (parseMethodDescriptor yX6_darn.desc).map (fun d => d.parameters.length) = some 3 := by decide +kernel
theorem evL_X6_drain : yX6_drain.cls = RX6 ∧ yX6_drain.cls ≠ "java/lang/invoke/MethodHandle" ∧ yX6_drain.cls ≠ "java/lang/invoke/VarHandle" ∧ (parseMethodDescriptor yX6_drain.desc).map (fun d => d.parameters.length) = some 2 := by decide +kernel
theorem evL_X6_drawn : yX6_drawn.cls = RX6 ∧ yX6_drawn.cls ≠ "java/lang/invoke/MethodHandle" ∧ yX6_drawn.cls ≠ "java/lang/invoke/VarHandle" ∧ (parseMethodDescriptor yX6_drawn.desc).map (fun d => d.parameters.length) = some 2 := by decide +kernel
theorem evL_X6_dusk : yX6_dusk.cls = RX6 ∧ yX6_dusk.cls ≠ "java/lang/invoke/MethodHandle" ∧ yX6_dusk.cls ≠ "java/lang/invoke/VarHandle" ∧ (parseMethodDescriptor yX6_dusk.desc).map (fun d => d.parameters.length) = some 1 := by decide +kernel
theorem evL_X6_feed : yX6_feed.cls = RX6 ∧ yX6_feed.cls ≠ "java/lang/invoke/MethodHandle" ∧ yX6_feed.cls ≠ "java/lang/invoke/VarHandle" ∧ (parseMethodDescriptor yX6_feed.desc).map (fun d => d.parameters.length) = some 6 := by decide +kernel
theorem evL_X6_film : yX6_film.cls = RX6 ∧ yX6_film.cls ≠ "java/lang/invoke/MethodHandle" ∧ yX6_film.cls ≠ "java/lang/invoke/VarHandle" ∧ (parseMethodDescriptor yX6_film.desc).map (fun d => d.parameters.length) = some 3 := by decide +kernel
theorem evL_X6_flood : yX6_flood.cls = RX6 ∧ yX6_flood.cls ≠ "java/lang/invoke/MethodHandle" ∧ yX6_flood.cls ≠ "java/lang/invoke/VarHandle" ∧ (parseMethodDescriptor yX6_flood.desc).map (fun d => d.parameters.length) = some 2 := by decide +kernel
theorem evL_X6_force : yX6_force.cls = RX6 ∧ yX6_force.cls ≠ "java/lang/invoke/MethodHandle" ∧ yX6_force.cls ≠ "java/lang/invoke/VarHandle" ∧ (parseMethodDescriptor yX6_force.desc).map (fun d => d.parameters.length) = some 1 := by decide +kernel
theorem evL_X6_image : yX6_image.cls = RX6 ∧ yX6_image.cls ≠ "java/lang/invoke/MethodHandle" ∧ yX6_image.cls ≠ "java/lang/invoke/VarHandle" ∧ (parseMethodDescriptor yX6_image.desc).map (fun d => d.parameters.length) = some 0 := by decide +kernel
theorem evL_X6_judge : yX6_judge.cls = RX6 ∧ yX6_judge.cls ≠ "java/lang/invoke/MethodHandle" ∧ yX6_judge.cls ≠ "java/lang/invoke/VarHandle" ∧ (parseMethodDescriptor yX6_judge.desc).map (fun d => d.parameters.length) = some 2 := by decide +kernel
theorem evL_X6_kinds : yX6_kinds.cls = RX6 ∧ yX6_kinds.cls ≠ "java/lang/invoke/MethodHandle" ∧ yX6_kinds.cls ≠ "java/lang/invoke/VarHandle" ∧ (parseMethodDescriptor yX6_kinds.desc).map (fun d => d.parameters.length) = some 3 := by decide +kernel
theorem evL_X6_knit : yX6_knit.cls = RX6 ∧ yX6_knit.cls ≠ "java/lang/invoke/MethodHandle" ∧ yX6_knit.cls ≠ "java/lang/invoke/VarHandle" ∧ (parseMethodDescriptor yX6_knit.desc).map (fun d => d.parameters.length) = some 2 := by decide +kernel
theorem evL_X6_laws : yX6_laws.cls = RX6 ∧ yX6_laws.cls ≠ "java/lang/invoke/MethodHandle" ∧ yX6_laws.cls ≠ "java/lang/invoke/VarHandle" ∧ (parseMethodDescriptor yX6_laws.desc).map (fun d => d.parameters.length) = some 2 := by decide +kernel
theorem evL_X6_meet : yX6_meet.cls = RX6 ∧ yX6_meet.cls ≠ "java/lang/invoke/MethodHandle" ∧ yX6_meet.cls ≠ "java/lang/invoke/VarHandle" ∧ (parseMethodDescriptor yX6_meet.desc).map (fun d => d.parameters.length) = some 2 := by decide +kernel
theorem evL_X6_night : yX6_night.cls = RX6 ∧ yX6_night.cls ≠ "java/lang/invoke/MethodHandle" ∧ yX6_night.cls ≠ "java/lang/invoke/VarHandle" ∧ (parseMethodDescriptor yX6_night.desc).map (fun d => d.parameters.length) = some 0 := by decide +kernel
theorem evL_X6_odds : yX6_odds.cls = RX6 ∧ yX6_odds.cls ≠ "java/lang/invoke/MethodHandle" ∧ yX6_odds.cls ≠ "java/lang/invoke/VarHandle" ∧ (parseMethodDescriptor yX6_odds.desc).map (fun d => d.parameters.length) = some 4 := by decide +kernel
theorem evL_X6_put : yX6_put.cls = RX6 ∧ yX6_put.cls ≠ "java/lang/invoke/MethodHandle" ∧ yX6_put.cls ≠ "java/lang/invoke/VarHandle" ∧ (parseMethodDescriptor yX6_put.desc).map (fun d => d.parameters.length) = some 3 := by decide +kernel
theorem evL_X6_run : yX6_run.cls = RX6 ∧ yX6_run.cls ≠ "java/lang/invoke/MethodHandle" ∧ yX6_run.cls ≠ "java/lang/invoke/VarHandle" ∧ (parseMethodDescriptor yX6_run.desc).map (fun d => d.parameters.length) = some 2 := by decide +kernel
theorem evL_X6_share : yX6_share.cls = RX6 ∧ yX6_share.cls ≠ "java/lang/invoke/MethodHandle" ∧ yX6_share.cls ≠ "java/lang/invoke/VarHandle" ∧ (parseMethodDescriptor yX6_share.desc).map (fun d => d.parameters.length) = some 2 := by decide +kernel
theorem evL_X6_sheet : yX6_sheet.cls = RX6 ∧ yX6_sheet.cls ≠ "java/lang/invoke/MethodHandle" ∧ yX6_sheet.cls ≠ "java/lang/invoke/VarHandle" ∧ (parseMethodDescriptor yX6_sheet.desc).map (fun d => d.parameters.length) = some 3 := by decide +kernel
theorem evL_X6_sleeper : yX6_sleeper.cls = RX6 ∧ yX6_sleeper.cls ≠ "java/lang/invoke/MethodHandle" ∧ yX6_sleeper.cls ≠ "java/lang/invoke/VarHandle" ∧ (parseMethodDescriptor yX6_sleeper.desc).map (fun d => d.parameters.length) = some 2 := by decide +kernel
theorem evL_X6_sleepersBy : yX6_sleepersBy.cls = RX6 ∧ yX6_sleepersBy.cls ≠ "java/lang/invoke/MethodHandle" ∧ yX6_sleepersBy.cls ≠ "java/lang/invoke/VarHandle" ∧ (parseMethodDescriptor yX6_sleepersBy.desc).map (fun d => d.parameters.length) = some 4 := by decide +kernel
theorem evL_X6_taken : yX6_taken.cls = RX6 ∧ yX6_taken.cls ≠ "java/lang/invoke/MethodHandle" ∧ yX6_taken.cls ≠ "java/lang/invoke/VarHandle" ∧ (parseMethodDescriptor yX6_taken.desc).map (fun d => d.parameters.length) = some 2 := by decide +kernel
theorem evL_X6_text : yX6_text.cls = RX6 ∧ yX6_text.cls ≠ "java/lang/invoke/MethodHandle" ∧ yX6_text.cls ≠ "java/lang/invoke/VarHandle" ∧ (parseMethodDescriptor yX6_text.desc).map (fun d => d.parameters.length) = some 0 := by decide +kernel
theorem evL_X6_told : yX6_told.cls = RX6 ∧ yX6_told.cls ≠ "java/lang/invoke/MethodHandle" ∧ yX6_told.cls ≠ "java/lang/invoke/VarHandle" ∧ (parseMethodDescriptor yX6_told.desc).map (fun d => d.parameters.length) = some 2 := by decide +kernel
theorem evL_X6_track : yX6_track.cls = RX6 ∧ yX6_track.cls ≠ "java/lang/invoke/MethodHandle" ∧ yX6_track.cls ≠ "java/lang/invoke/VarHandle" ∧ (parseMethodDescriptor yX6_track.desc).map (fun d => d.parameters.length) = some 2 := by decide +kernel
theorem evL_X6_turn : yX6_turn.cls = RX6 ∧ yX6_turn.cls ≠ "java/lang/invoke/MethodHandle" ∧ yX6_turn.cls ≠ "java/lang/invoke/VarHandle" ∧ (parseMethodDescriptor yX6_turn.desc).map (fun d => d.parameters.length) = some 3 := by decide +kernel
theorem evL_X6_ways : yX6_ways.cls = RX6 ∧ yX6_ways.cls ≠ "java/lang/invoke/MethodHandle" ∧ yX6_ways.cls ≠ "java/lang/invoke/VarHandle" ∧ (parseMethodDescriptor yX6_ways.desc).map (fun d => d.parameters.length) = some 3 := by decide +kernel
theorem evL_X6_whose : yX6_whose.cls = RX6 ∧ yX6_whose.cls ≠ "java/lang/invoke/MethodHandle" ∧ yX6_whose.cls ≠ "java/lang/invoke/VarHandle" ∧ (parseMethodDescriptor yX6_whose.desc).map (fun d => d.parameters.length) = some 1 := by decide +kernel
set_option maxHeartbeats 4000000 in
set_option maxRecDepth 100000 in
theorem lc_0 (C : CW p s m #[Value.ref b] meth c cL_law 4 RL D cy zz (fun q => s.heap.size ≤ q)) (hX : va_X b L xs s s.heap) (hbl : b < s.heap.size) (hL : L ≤ 3584) {i : Nat} (hi : i + 7 ≤ L) {ad ae : Nat → Nat} {M R : Mem} (h : Sim M R) (hc : cells ≤ room_1.cells ∧ slots ≤ room_1.slots) {H : Heap} {locs : List Loc} {ls : Array Slot} (hP : va_P D vwCl (pool cy ad 0 82 M ++ pool cy ae 100 21 R) H) (hD : va_D (fun q => s.heap.size ≤ q) (pool cy ad 0 82 M ++ pool cy ae 100 21 R)) (hS : va_S (fun q => s.heap.size ≤ q) s.heap H locs) (hl : lv_has ls 4 [(3, .int (nI i)), (2, .ref (ae 100)), (1, .ref (ad 0)), (0, .ref b)])
    (kk : ∀ (M R : Mem) (H : Heap) (locs : List Loc), Sim M R → va_P D vwCl (pool cy ad 0 82 M ++ pool cy ae 100 21 R) H → va_D (fun q => s.heap.size ≤ q) (pool cy ad 0 82 M ++ pool cy ae 100 21 R) → va_S (fun q => s.heap.size ≤ q) s.heap H locs → W p l e room_1 s m #[Value.ref b] below meth c H locs cells slots Q (F0 m 1560 ls [])) : W p l e room_1 s m #[Value.ref b] below meth c H locs cells slots Q (F0 m 200 ls []) := by
  obtain ⟨hx, hb, hml, hown, hts, hlk, hK, hN2, hA, hX2⟩ := id C
  obtain ⟨r, e1, e2⟩ := st_count (N := 300) (by decide) (xs (i + 1)) h
  refine lv_aload_n hx hb dL_law_200 rfl (lv_at hl 2 rfl) ?_
  refine lv_aload_n hx hb dL_law_201 rfl (lv_at hl 3 rfl) ?_
  refine lv_iload_n hx hb dL_law_202 rfl (lv_at hl 0 rfl) ?_
  refine lv_iconst (v := 1) hx hb dL_law_203 (by decide) ?_
  refine lv_iadd hx hb dL_law_204 ?_
  refine ld_s (j := i + 1) C hX hbl hS hL (by omega) (nI_add i 1) dL_law_205 ?_
  refine cw_pi (ad := ad) (b := 0) (n := 82) (M := M) (M' := M) (ws := pool cy ae 100 21 R) (j := ad 0) (As := [.int (xs (i + 1))]) (rest := []) C hP hD hS (c_X5_count e1) (recv_pool (b := 0) (n := 82) hK hP ⟨by decide, by decide⟩ (ent_5 rfl) (ci := 5) rfl) (gV wd_408 wd_409 wd_410 wd_64 wd_411) evL_X5_count ⟨rfl, rfl⟩ ⟨(Nat.le_of_ble_eq_true rfl), (Nat.le_of_ble_eq_true rfl)⟩ hl.1 rfl (Nat.le_of_ble_eq_true rfl) dL_law_206 hc (fun H locs hP hD hS => ?_)
  replace hP : va_P D vwCl (pool cy ae 100 21 R ++ pool cy ad 0 82 M) H := hP.pm List.perm_append_comm
  replace hD : va_D (fun q => s.heap.size ≤ q) (pool cy ae 100 21 R ++ pool cy ad 0 82 M) := hD.pm List.perm_append_comm
  refine lv_aload_n hx hb dL_law_209 rfl (lv_at hl 1 rfl) ?_
  refine lv_aload_n hx hb dL_law_210 rfl (lv_at hl 3 rfl) ?_
  refine lv_iload_n hx hb dL_law_211 rfl (lv_at hl 0 rfl) ?_
  refine lv_iconst (v := 1) hx hb dL_law_212 (by decide) ?_
  refine lv_iadd hx hb dL_law_213 ?_
  refine ld_s (j := i + 1) C hX hbl hS hL (by omega) (nI_add i 1) dL_law_214 ?_
  refine cw_pi (ad := ae) (b := 100) (n := 21) (M := R) (M' := R) (ws := pool cy ad 0 82 M) (j := ae 100) (As := [.int (xs (i + 1))]) (rest := [.int r]) C hP hD hS (c_X6_count e2) (recv_pool (b := 100) (n := 21) hK hP ⟨by decide, by decide⟩ (ent_6 rfl) (ci := 6) rfl) (gV wd_995 wd_996 wd_997 wd_75 wd_998) evL_X6_count ⟨rfl, rfl⟩ ⟨(Nat.le_of_ble_eq_true rfl), (Nat.le_of_ble_eq_true rfl)⟩ hl.1 rfl (Nat.le_of_ble_eq_true rfl) dL_law_215 hc (fun H locs hP hD hS => ?_)
  refine lv_icmp_eq (tgt := 1560) hx hb dL_law_218 (by decide) (fun _ => ?_) (fun z => absurd rfl z)
  exact kk M R H locs h (hP.pm List.perm_append_comm) (hD.pm List.perm_append_comm) hS

set_option maxHeartbeats 4000000 in
set_option maxRecDepth 100000 in
theorem lc_1 (C : CW p s m #[Value.ref b] meth c cL_law 4 RL D cy zz (fun q => s.heap.size ≤ q)) (hX : va_X b L xs s s.heap) (hbl : b < s.heap.size) (hL : L ≤ 3584) {i : Nat} (hi : i + 7 ≤ L) {ad ae : Nat → Nat} {M R : Mem} (h : Sim M R) (hc : cells ≤ room_1.cells ∧ slots ≤ room_1.slots) {H : Heap} {locs : List Loc} {ls : Array Slot} (hP : va_P D vwCl (pool cy ad 0 82 M ++ pool cy ae 100 21 R) H) (hD : va_D (fun q => s.heap.size ≤ q) (pool cy ad 0 82 M ++ pool cy ae 100 21 R)) (hS : va_S (fun q => s.heap.size ≤ q) s.heap H locs) (hl : lv_has ls 4 [(3, .int (nI i)), (2, .ref (ae 100)), (1, .ref (ad 0)), (0, .ref b)])
    (kk : ∀ (M R : Mem) (H : Heap) (locs : List Loc), Sim M R → va_P D vwCl (pool cy ad 0 82 M ++ pool cy ae 100 21 R) H → va_D (fun q => s.heap.size ≤ q) (pool cy ad 0 82 M ++ pool cy ae 100 21 R) → va_S (fun q => s.heap.size ≤ q) s.heap H locs → W p l e room_1 s m #[Value.ref b] below meth c H locs cells slots Q (F0 m 1560 ls [])) : W p l e room_1 s m #[Value.ref b] below meth c H locs cells slots Q (F0 m 223 ls []) := by
  obtain ⟨hx, hb, hml, hown, hts, hlk, hK, hN2, hA, hX2⟩ := id C
  obtain ⟨r, M2, R2, e1, e2, h2⟩ := st_dusk (xs (i + 1)) h
  refine lv_aload_n hx hb dL_law_223 rfl (lv_at hl 2 rfl) ?_
  refine lv_aload_n hx hb dL_law_224 rfl (lv_at hl 3 rfl) ?_
  refine lv_iload_n hx hb dL_law_225 rfl (lv_at hl 0 rfl) ?_
  refine lv_iconst (v := 1) hx hb dL_law_226 (by decide) ?_
  refine lv_iadd hx hb dL_law_227 ?_
  refine ld_s (j := i + 1) C hX hbl hS hL (by omega) (nI_add i 1) dL_law_228 ?_
  refine cw_pi (ad := ad) (b := 0) (n := 82) (M := M) (M' := M2) (ws := pool cy ae 100 21 R) (j := ad 0) (As := [.int (xs (i + 1))]) (rest := []) C hP hD hS (c_X5_dusk e1) (recv_pool (b := 0) (n := 82) hK hP ⟨by decide, by decide⟩ (ent_5 rfl) (ci := 5) rfl) (gV wd_418 wd_419 wd_420 wd_64 wd_421) evL_X5_dusk ⟨rfl, rfl⟩ ⟨(Nat.le_of_ble_eq_true rfl), (Nat.le_of_ble_eq_true rfl)⟩ hl.1 rfl (Nat.le_of_ble_eq_true rfl) dL_law_229 hc (fun H locs hP hD hS => ?_)
  replace hP : va_P D vwCl (pool cy ae 100 21 R ++ pool cy ad 0 82 M2) H := hP.pm List.perm_append_comm
  replace hD : va_D (fun q => s.heap.size ≤ q) (pool cy ae 100 21 R ++ pool cy ad 0 82 M2) := hD.pm List.perm_append_comm
  refine lv_aload_n hx hb dL_law_232 rfl (lv_at hl 1 rfl) ?_
  refine lv_aload_n hx hb dL_law_233 rfl (lv_at hl 3 rfl) ?_
  refine lv_iload_n hx hb dL_law_234 rfl (lv_at hl 0 rfl) ?_
  refine lv_iconst (v := 1) hx hb dL_law_235 (by decide) ?_
  refine lv_iadd hx hb dL_law_236 ?_
  refine ld_s (j := i + 1) C hX hbl hS hL (by omega) (nI_add i 1) dL_law_237 ?_
  refine cw_pi (ad := ae) (b := 100) (n := 21) (M := R) (M' := R2) (ws := pool cy ad 0 82 M2) (j := ae 100) (As := [.int (xs (i + 1))]) (rest := [.int r]) C hP hD hS (c_X6_dusk e2) (recv_pool (b := 100) (n := 21) hK hP ⟨by decide, by decide⟩ (ent_6 rfl) (ci := 6) rfl) (gV wd_1002 wd_1003 wd_1004 wd_75 wd_1005) evL_X6_dusk ⟨rfl, rfl⟩ ⟨(Nat.le_of_ble_eq_true rfl), (Nat.le_of_ble_eq_true rfl)⟩ hl.1 rfl (Nat.le_of_ble_eq_true rfl) dL_law_238 hc (fun H locs hP hD hS => ?_)
  refine lv_icmp_eq (tgt := 1560) hx hb dL_law_241 (by decide) (fun _ => ?_) (fun z => absurd rfl z)
  exact kk M2 R2 H locs h2 (hP.pm List.perm_append_comm) (hD.pm List.perm_append_comm) hS

set_option maxHeartbeats 4000000 in
set_option maxRecDepth 100000 in
theorem lc_2 (C : CW p s m #[Value.ref b] meth c cL_law 4 RL D cy zz (fun q => s.heap.size ≤ q)) (hX : va_X b L xs s s.heap) (hbl : b < s.heap.size) (hL : L ≤ 3584) {i : Nat} (hi : i + 7 ≤ L) {ad ae : Nat → Nat} {M R : Mem} (h : Sim M R) (hc : cells ≤ room_1.cells ∧ slots ≤ room_1.slots) {H : Heap} {locs : List Loc} {ls : Array Slot} (hP : va_P D vwCl (pool cy ad 0 82 M ++ pool cy ae 100 21 R) H) (hD : va_D (fun q => s.heap.size ≤ q) (pool cy ad 0 82 M ++ pool cy ae 100 21 R)) (hS : va_S (fun q => s.heap.size ≤ q) s.heap H locs) (hl : lv_has ls 4 [(3, .int (nI i)), (2, .ref (ae 100)), (1, .ref (ad 0)), (0, .ref b)])
    (kk : ∀ (M R : Mem) (H : Heap) (locs : List Loc), Sim M R → va_P D vwCl (pool cy ad 0 82 M ++ pool cy ae 100 21 R) H → va_D (fun q => s.heap.size ≤ q) (pool cy ad 0 82 M ++ pool cy ae 100 21 R) → va_S (fun q => s.heap.size ≤ q) s.heap H locs → W p l e room_1 s m #[Value.ref b] below meth c H locs cells slots Q (F0 m 1560 ls [])) : W p l e room_1 s m #[Value.ref b] below meth c H locs cells slots Q (F0 m 246 ls []) := by
  obtain ⟨hx, hb, hml, hown, hts, hlk, hK, hN2, hA, hX2⟩ := id C
  obtain ⟨r, M2, R2, e1, e2, h2⟩ := st_flood (xs (i + 1)) (xs (i + 2)) h
  refine lv_aload_n hx hb dL_law_246 rfl (lv_at hl 2 rfl) ?_
  refine lv_aload_n hx hb dL_law_247 rfl (lv_at hl 3 rfl) ?_
  refine lv_iload_n hx hb dL_law_248 rfl (lv_at hl 0 rfl) ?_
  refine lv_iconst (v := 1) hx hb dL_law_249 (by decide) ?_
  refine lv_iadd hx hb dL_law_250 ?_
  refine ld_s (j := i + 1) C hX hbl hS hL (by omega) (nI_add i 1) dL_law_251 ?_
  refine lv_aload_n hx hb dL_law_252 rfl (lv_at hl 3 rfl) ?_
  refine lv_iload_n hx hb dL_law_253 rfl (lv_at hl 0 rfl) ?_
  refine lv_iconst (v := 2) hx hb dL_law_254 (by decide) ?_
  refine lv_iadd hx hb dL_law_255 ?_
  refine ld_s (j := i + 2) C hX hbl hS hL (by omega) (nI_add i 2) dL_law_256 ?_
  refine cw_pi (ad := ad) (b := 0) (n := 82) (M := M) (M' := M2) (ws := pool cy ae 100 21 R) (j := ad 0) (As := [.int (xs (i + 1)), .int (xs (i + 2))]) (rest := []) C hP hD hS (c_X5_flood e1) (recv_pool (b := 0) (n := 82) hK hP ⟨by decide, by decide⟩ (ent_5 rfl) (ci := 5) rfl) (gV wd_422 wd_423 wd_424 wd_64 wd_425) evL_X5_flood ⟨rfl, rfl⟩ ⟨(Nat.le_of_ble_eq_true rfl), (Nat.le_of_ble_eq_true rfl)⟩ hl.1 rfl (Nat.le_of_ble_eq_true rfl) dL_law_257 hc (fun H locs hP hD hS => ?_)
  replace hP : va_P D vwCl (pool cy ae 100 21 R ++ pool cy ad 0 82 M2) H := hP.pm List.perm_append_comm
  replace hD : va_D (fun q => s.heap.size ≤ q) (pool cy ae 100 21 R ++ pool cy ad 0 82 M2) := hD.pm List.perm_append_comm
  refine lv_aload_n hx hb dL_law_260 rfl (lv_at hl 1 rfl) ?_
  refine lv_aload_n hx hb dL_law_261 rfl (lv_at hl 3 rfl) ?_
  refine lv_iload_n hx hb dL_law_262 rfl (lv_at hl 0 rfl) ?_
  refine lv_iconst (v := 1) hx hb dL_law_263 (by decide) ?_
  refine lv_iadd hx hb dL_law_264 ?_
  refine ld_s (j := i + 1) C hX hbl hS hL (by omega) (nI_add i 1) dL_law_265 ?_
  refine lv_aload_n hx hb dL_law_266 rfl (lv_at hl 3 rfl) ?_
  refine lv_iload_n hx hb dL_law_267 rfl (lv_at hl 0 rfl) ?_
  refine lv_iconst (v := 2) hx hb dL_law_268 (by decide) ?_
  refine lv_iadd hx hb dL_law_269 ?_
  refine ld_s (j := i + 2) C hX hbl hS hL (by omega) (nI_add i 2) dL_law_270 ?_
  refine cw_pi (ad := ae) (b := 100) (n := 21) (M := R) (M' := R2) (ws := pool cy ad 0 82 M2) (j := ae 100) (As := [.int (xs (i + 1)), .int (xs (i + 2))]) (rest := [.int r]) C hP hD hS (c_X6_flood e2) (recv_pool (b := 100) (n := 21) hK hP ⟨by decide, by decide⟩ (ent_6 rfl) (ci := 6) rfl) (gV wd_1006 wd_1007 wd_1008 wd_75 wd_1009) evL_X6_flood ⟨rfl, rfl⟩ ⟨(Nat.le_of_ble_eq_true rfl), (Nat.le_of_ble_eq_true rfl)⟩ hl.1 rfl (Nat.le_of_ble_eq_true rfl) dL_law_271 hc (fun H locs hP hD hS => ?_)
  refine lv_icmp_eq (tgt := 1560) hx hb dL_law_274 (by decide) (fun _ => ?_) (fun z => absurd rfl z)
  exact kk M2 R2 H locs h2 (hP.pm List.perm_append_comm) (hD.pm List.perm_append_comm) hS

set_option maxHeartbeats 4000000 in
set_option maxRecDepth 100000 in
theorem lc_3 (C : CW p s m #[Value.ref b] meth c cL_law 4 RL D cy zz (fun q => s.heap.size ≤ q)) (hX : va_X b L xs s s.heap) (hbl : b < s.heap.size) (hL : L ≤ 3584) {i : Nat} (hi : i + 7 ≤ L) {ad ae : Nat → Nat} {M R : Mem} (h : Sim M R) (hc : cells ≤ room_1.cells ∧ slots ≤ room_1.slots) {H : Heap} {locs : List Loc} {ls : Array Slot} (hP : va_P D vwCl (pool cy ad 0 82 M ++ pool cy ae 100 21 R) H) (hD : va_D (fun q => s.heap.size ≤ q) (pool cy ad 0 82 M ++ pool cy ae 100 21 R)) (hS : va_S (fun q => s.heap.size ≤ q) s.heap H locs) (hl : lv_has ls 4 [(3, .int (nI i)), (2, .ref (ae 100)), (1, .ref (ad 0)), (0, .ref b)])
    (kk : ∀ (M R : Mem) (H : Heap) (locs : List Loc), Sim M R → va_P D vwCl (pool cy ad 0 82 M ++ pool cy ae 100 21 R) H → va_D (fun q => s.heap.size ≤ q) (pool cy ad 0 82 M ++ pool cy ae 100 21 R) → va_S (fun q => s.heap.size ≤ q) s.heap H locs → W p l e room_1 s m #[Value.ref b] below meth c H locs cells slots Q (F0 m 1560 ls [])) : W p l e room_1 s m #[Value.ref b] below meth c H locs cells slots Q (F0 m 279 ls []) := by
  obtain ⟨hx, hb, hml, hown, hts, hlk, hK, hN2, hA, hX2⟩ := id C
  obtain ⟨r, M2, R2, e1, e2, h2⟩ := st_feed (N := 300) (by decide) (xs (i + 1)) (xs (i + 2)) (xs (i + 3)) (xs (i + 4)) (xs (i + 5)) (xs (i + 6)) h
  refine lv_aload_n hx hb dL_law_279 rfl (lv_at hl 2 rfl) ?_
  refine lv_aload_n hx hb dL_law_280 rfl (lv_at hl 3 rfl) ?_
  refine lv_iload_n hx hb dL_law_281 rfl (lv_at hl 0 rfl) ?_
  refine lv_iconst (v := 1) hx hb dL_law_282 (by decide) ?_
  refine lv_iadd hx hb dL_law_283 ?_
  refine ld_s (j := i + 1) C hX hbl hS hL (by omega) (nI_add i 1) dL_law_284 ?_
  refine lv_aload_n hx hb dL_law_285 rfl (lv_at hl 3 rfl) ?_
  refine lv_iload_n hx hb dL_law_286 rfl (lv_at hl 0 rfl) ?_
  refine lv_iconst (v := 2) hx hb dL_law_287 (by decide) ?_
  refine lv_iadd hx hb dL_law_288 ?_
  refine ld_s (j := i + 2) C hX hbl hS hL (by omega) (nI_add i 2) dL_law_289 ?_
  refine lv_aload_n hx hb dL_law_290 rfl (lv_at hl 3 rfl) ?_
  refine lv_iload_n hx hb dL_law_291 rfl (lv_at hl 0 rfl) ?_
  refine lv_iconst (v := 3) hx hb dL_law_292 (by decide) ?_
  refine lv_iadd hx hb dL_law_293 ?_
  refine ld_s (j := i + 3) C hX hbl hS hL (by omega) (nI_add i 3) dL_law_294 ?_
  refine lv_aload_n hx hb dL_law_295 rfl (lv_at hl 3 rfl) ?_
  refine lv_iload_n hx hb dL_law_296 rfl (lv_at hl 0 rfl) ?_
  refine lv_iconst (v := 4) hx hb dL_law_297 (by decide) ?_
  refine lv_iadd hx hb dL_law_298 ?_
  refine ld_s (j := i + 4) C hX hbl hS hL (by omega) (nI_add i 4) dL_law_299 ?_
  refine lv_aload_n hx hb dL_law_300 rfl (lv_at hl 3 rfl) ?_
  refine lv_iload_n hx hb dL_law_301 rfl (lv_at hl 0 rfl) ?_
  refine lv_iconst (v := 5) hx hb dL_law_302 (by decide) ?_
  refine lv_iadd hx hb dL_law_303 ?_
  refine ld_s (j := i + 5) C hX hbl hS hL (by omega) (nI_add i 5) dL_law_304 ?_
  refine lv_aload_n hx hb dL_law_305 rfl (lv_at hl 3 rfl) ?_
  refine lv_iload_n hx hb dL_law_306 rfl (lv_at hl 0 rfl) ?_
  refine lv_bipush (v := 6) hx hb dL_law_307 (by decide) ?_
  refine lv_iadd hx hb dL_law_309 ?_
  refine ld_s (j := i + 6) C hX hbl hS hL (by omega) (nI_add i 6) dL_law_310 ?_
  refine cw_pi (ad := ad) (b := 0) (n := 82) (M := M) (M' := M2) (ws := pool cy ae 100 21 R) (j := ad 0) (As := [.int (xs (i + 1)), .int (xs (i + 2)), .int (xs (i + 3)), .int (xs (i + 4)), .int (xs (i + 5)), .int (xs (i + 6))]) (rest := []) C hP hD hS (c_X5_feed e1) (recv_pool (b := 0) (n := 82) hK hP ⟨by decide, by decide⟩ (ent_5 rfl) (ci := 5) rfl) (gV wd_432 wd_433 wd_434 wd_64 wd_435) evL_X5_feed ⟨rfl, rfl⟩ ⟨(Nat.le_of_ble_eq_true rfl), (Nat.le_of_ble_eq_true rfl)⟩ hl.1 rfl (Nat.le_of_ble_eq_true rfl) dL_law_311 hc (fun H locs hP hD hS => ?_)
  replace hP : va_P D vwCl (pool cy ae 100 21 R ++ pool cy ad 0 82 M2) H := hP.pm List.perm_append_comm
  replace hD : va_D (fun q => s.heap.size ≤ q) (pool cy ae 100 21 R ++ pool cy ad 0 82 M2) := hD.pm List.perm_append_comm
  refine lv_aload_n hx hb dL_law_314 rfl (lv_at hl 1 rfl) ?_
  refine lv_aload_n hx hb dL_law_315 rfl (lv_at hl 3 rfl) ?_
  refine lv_iload_n hx hb dL_law_316 rfl (lv_at hl 0 rfl) ?_
  refine lv_iconst (v := 1) hx hb dL_law_317 (by decide) ?_
  refine lv_iadd hx hb dL_law_318 ?_
  refine ld_s (j := i + 1) C hX hbl hS hL (by omega) (nI_add i 1) dL_law_319 ?_
  refine lv_aload_n hx hb dL_law_320 rfl (lv_at hl 3 rfl) ?_
  refine lv_iload_n hx hb dL_law_321 rfl (lv_at hl 0 rfl) ?_
  refine lv_iconst (v := 2) hx hb dL_law_322 (by decide) ?_
  refine lv_iadd hx hb dL_law_323 ?_
  refine ld_s (j := i + 2) C hX hbl hS hL (by omega) (nI_add i 2) dL_law_324 ?_
  refine lv_aload_n hx hb dL_law_325 rfl (lv_at hl 3 rfl) ?_
  refine lv_iload_n hx hb dL_law_326 rfl (lv_at hl 0 rfl) ?_
  refine lv_iconst (v := 3) hx hb dL_law_327 (by decide) ?_
  refine lv_iadd hx hb dL_law_328 ?_
  refine ld_s (j := i + 3) C hX hbl hS hL (by omega) (nI_add i 3) dL_law_329 ?_
  refine lv_aload_n hx hb dL_law_330 rfl (lv_at hl 3 rfl) ?_
  refine lv_iload_n hx hb dL_law_331 rfl (lv_at hl 0 rfl) ?_
  refine lv_iconst (v := 4) hx hb dL_law_332 (by decide) ?_
  refine lv_iadd hx hb dL_law_333 ?_
  refine ld_s (j := i + 4) C hX hbl hS hL (by omega) (nI_add i 4) dL_law_334 ?_
  refine lv_aload_n hx hb dL_law_335 rfl (lv_at hl 3 rfl) ?_
  refine lv_iload_n hx hb dL_law_336 rfl (lv_at hl 0 rfl) ?_
  refine lv_iconst (v := 5) hx hb dL_law_337 (by decide) ?_
  refine lv_iadd hx hb dL_law_338 ?_
  refine ld_s (j := i + 5) C hX hbl hS hL (by omega) (nI_add i 5) dL_law_339 ?_
  refine lv_aload_n hx hb dL_law_340 rfl (lv_at hl 3 rfl) ?_
  refine lv_iload_n hx hb dL_law_341 rfl (lv_at hl 0 rfl) ?_
  refine lv_bipush (v := 6) hx hb dL_law_342 (by decide) ?_
  refine lv_iadd hx hb dL_law_344 ?_
  refine ld_s (j := i + 6) C hX hbl hS hL (by omega) (nI_add i 6) dL_law_345 ?_
  refine cw_pi (ad := ae) (b := 100) (n := 21) (M := R) (M' := R2) (ws := pool cy ad 0 82 M2) (j := ae 100) (As := [.int (xs (i + 1)), .int (xs (i + 2)), .int (xs (i + 3)), .int (xs (i + 4)), .int (xs (i + 5)), .int (xs (i + 6))]) (rest := [.int r]) C hP hD hS (c_X6_feed e2) (recv_pool (b := 100) (n := 21) hK hP ⟨by decide, by decide⟩ (ent_6 rfl) (ci := 6) rfl) (gV wd_1018 wd_1019 wd_1020 wd_75 wd_1021) evL_X6_feed ⟨rfl, rfl⟩ ⟨(Nat.le_of_ble_eq_true rfl), (Nat.le_of_ble_eq_true rfl)⟩ hl.1 rfl (Nat.le_of_ble_eq_true rfl) dL_law_346 hc (fun H locs hP hD hS => ?_)
  refine lv_icmp_eq (tgt := 1560) hx hb dL_law_349 (by decide) (fun _ => ?_) (fun z => absurd rfl z)
  exact kk M2 R2 H locs h2 (hP.pm List.perm_append_comm) (hD.pm List.perm_append_comm) hS

set_option maxHeartbeats 4000000 in
set_option maxRecDepth 100000 in
theorem lc_4 (C : CW p s m #[Value.ref b] meth c cL_law 4 RL D cy zz (fun q => s.heap.size ≤ q)) (hX : va_X b L xs s s.heap) (hbl : b < s.heap.size) (hL : L ≤ 3584) {i : Nat} (hi : i + 7 ≤ L) {ad ae : Nat → Nat} {M R : Mem} (h : Sim M R) (hc : cells ≤ room_1.cells ∧ slots ≤ room_1.slots) {H : Heap} {locs : List Loc} {ls : Array Slot} (hP : va_P D vwCl (pool cy ad 0 82 M ++ pool cy ae 100 21 R) H) (hD : va_D (fun q => s.heap.size ≤ q) (pool cy ad 0 82 M ++ pool cy ae 100 21 R)) (hS : va_S (fun q => s.heap.size ≤ q) s.heap H locs) (hl : lv_has ls 4 [(3, .int (nI i)), (2, .ref (ae 100)), (1, .ref (ad 0)), (0, .ref b)])
    (kk : ∀ (M R : Mem) (H : Heap) (locs : List Loc), Sim M R → va_P D vwCl (pool cy ad 0 82 M ++ pool cy ae 100 21 R) H → va_D (fun q => s.heap.size ≤ q) (pool cy ad 0 82 M ++ pool cy ae 100 21 R) → va_S (fun q => s.heap.size ≤ q) s.heap H locs → W p l e room_1 s m #[Value.ref b] below meth c H locs cells slots Q (F0 m 1560 ls [])) : W p l e room_1 s m #[Value.ref b] below meth c H locs cells slots Q (F0 m 354 ls []) := by
  obtain ⟨hx, hb, hml, hown, hts, hlk, hK, hN2, hA, hX2⟩ := id C
  obtain ⟨r, M2, R2, e1, e2, h2⟩ := st_text (N := 300) (by decide)  h
  refine lv_aload_n hx hb dL_law_354 rfl (lv_at hl 2 rfl) ?_
  refine cw_pi (ad := ad) (b := 0) (n := 82) (M := M) (M' := M2) (ws := pool cy ae 100 21 R) (j := ad 0) (As := []) (rest := []) C hP hD hS (c_X5_text e1) (recv_pool (b := 0) (n := 82) hK hP ⟨by decide, by decide⟩ (ent_5 rfl) (ci := 5) rfl) (gV wd_443 wd_444 wd_445 wd_64 wd_446) evL_X5_text ⟨rfl, rfl⟩ ⟨(Nat.le_of_ble_eq_true rfl), (Nat.le_of_ble_eq_true rfl)⟩ hl.1 rfl (Nat.le_of_ble_eq_true rfl) dL_law_355 hc (fun H locs hP hD hS => ?_)
  replace hP : va_P D vwCl (pool cy ae 100 21 R ++ pool cy ad 0 82 M2) H := hP.pm List.perm_append_comm
  replace hD : va_D (fun q => s.heap.size ≤ q) (pool cy ae 100 21 R ++ pool cy ad 0 82 M2) := hD.pm List.perm_append_comm
  refine lv_aload_n hx hb dL_law_358 rfl (lv_at hl 1 rfl) ?_
  refine cw_pi (ad := ae) (b := 100) (n := 21) (M := R) (M' := R2) (ws := pool cy ad 0 82 M2) (j := ae 100) (As := []) (rest := [.int r]) C hP hD hS (c_X6_text e2) (recv_pool (b := 100) (n := 21) hK hP ⟨by decide, by decide⟩ (ent_6 rfl) (ci := 6) rfl) (gV wd_1025 wd_836 wd_837 wd_75 wd_838) evL_X6_text ⟨rfl, rfl⟩ ⟨(Nat.le_of_ble_eq_true rfl), (Nat.le_of_ble_eq_true rfl)⟩ hl.1 rfl (Nat.le_of_ble_eq_true rfl) dL_law_359 hc (fun H locs hP hD hS => ?_)
  refine lv_icmp_eq (tgt := 1560) hx hb dL_law_362 (by decide) (fun _ => ?_) (fun z => absurd rfl z)
  exact kk M2 R2 H locs h2 (hP.pm List.perm_append_comm) (hD.pm List.perm_append_comm) hS

set_option maxHeartbeats 4000000 in
set_option maxRecDepth 100000 in
theorem lc_5 (C : CW p s m #[Value.ref b] meth c cL_law 4 RL D cy zz (fun q => s.heap.size ≤ q)) (hX : va_X b L xs s s.heap) (hbl : b < s.heap.size) (hL : L ≤ 3584) {i : Nat} (hi : i + 7 ≤ L) {ad ae : Nat → Nat} {M R : Mem} (h : Sim M R) (hc : cells ≤ room_1.cells ∧ slots ≤ room_1.slots) {H : Heap} {locs : List Loc} {ls : Array Slot} (hP : va_P D vwCl (pool cy ad 0 82 M ++ pool cy ae 100 21 R) H) (hD : va_D (fun q => s.heap.size ≤ q) (pool cy ad 0 82 M ++ pool cy ae 100 21 R)) (hS : va_S (fun q => s.heap.size ≤ q) s.heap H locs) (hl : lv_has ls 4 [(3, .int (nI i)), (2, .ref (ae 100)), (1, .ref (ad 0)), (0, .ref b)])
    (kk : ∀ (M R : Mem) (H : Heap) (locs : List Loc), Sim M R → va_P D vwCl (pool cy ad 0 82 M ++ pool cy ae 100 21 R) H → va_D (fun q => s.heap.size ≤ q) (pool cy ad 0 82 M ++ pool cy ae 100 21 R) → va_S (fun q => s.heap.size ≤ q) s.heap H locs → W p l e room_1 s m #[Value.ref b] below meth c H locs cells slots Q (F0 m 1560 ls [])) : W p l e room_1 s m #[Value.ref b] below meth c H locs cells slots Q (F0 m 367 ls []) := by
  obtain ⟨hx, hb, hml, hown, hts, hlk, hK, hN2, hA, hX2⟩ := id C
  obtain ⟨r, M2, R2, e1, e2, h2⟩ := st_force (xs (i + 1)) h
  refine lv_aload_n hx hb dL_law_367 rfl (lv_at hl 2 rfl) ?_
  refine lv_aload_n hx hb dL_law_368 rfl (lv_at hl 3 rfl) ?_
  refine lv_iload_n hx hb dL_law_369 rfl (lv_at hl 0 rfl) ?_
  refine lv_iconst (v := 1) hx hb dL_law_370 (by decide) ?_
  refine lv_iadd hx hb dL_law_371 ?_
  refine ld_s (j := i + 1) C hX hbl hS hL (by omega) (nI_add i 1) dL_law_372 ?_
  refine cw_pi (ad := ad) (b := 0) (n := 82) (M := M) (M' := M2) (ws := pool cy ae 100 21 R) (j := ad 0) (As := [.int (xs (i + 1))]) (rest := []) C hP hD hS (c_X5_force e1) (recv_pool (b := 0) (n := 82) hK hP ⟨by decide, by decide⟩ (ent_5 rfl) (ci := 5) rfl) (gV wd_447 wd_448 wd_449 wd_64 wd_450) evL_X5_force ⟨rfl, rfl⟩ ⟨(Nat.le_of_ble_eq_true rfl), (Nat.le_of_ble_eq_true rfl)⟩ hl.1 rfl (Nat.le_of_ble_eq_true rfl) dL_law_373 hc (fun H locs hP hD hS => ?_)
  replace hP : va_P D vwCl (pool cy ae 100 21 R ++ pool cy ad 0 82 M2) H := hP.pm List.perm_append_comm
  replace hD : va_D (fun q => s.heap.size ≤ q) (pool cy ae 100 21 R ++ pool cy ad 0 82 M2) := hD.pm List.perm_append_comm
  refine lv_aload_n hx hb dL_law_376 rfl (lv_at hl 1 rfl) ?_
  refine lv_aload_n hx hb dL_law_377 rfl (lv_at hl 3 rfl) ?_
  refine lv_iload_n hx hb dL_law_378 rfl (lv_at hl 0 rfl) ?_
  refine lv_iconst (v := 1) hx hb dL_law_379 (by decide) ?_
  refine lv_iadd hx hb dL_law_380 ?_
  refine ld_s (j := i + 1) C hX hbl hS hL (by omega) (nI_add i 1) dL_law_381 ?_
  refine cw_pi (ad := ae) (b := 100) (n := 21) (M := R) (M' := R2) (ws := pool cy ad 0 82 M2) (j := ae 100) (As := [.int (xs (i + 1))]) (rest := [.int r]) C hP hD hS (c_X6_force e2) (recv_pool (b := 100) (n := 21) hK hP ⟨by decide, by decide⟩ (ent_6 rfl) (ci := 6) rfl) (gV wd_1026 wd_1027 wd_1028 wd_75 wd_1029) evL_X6_force ⟨rfl, rfl⟩ ⟨(Nat.le_of_ble_eq_true rfl), (Nat.le_of_ble_eq_true rfl)⟩ hl.1 rfl (Nat.le_of_ble_eq_true rfl) dL_law_382 hc (fun H locs hP hD hS => ?_)
  refine lv_icmp_eq (tgt := 1560) hx hb dL_law_385 (by decide) (fun _ => ?_) (fun z => absurd rfl z)
  exact kk M2 R2 H locs h2 (hP.pm List.perm_append_comm) (hD.pm List.perm_append_comm) hS

set_option maxHeartbeats 4000000 in
set_option maxRecDepth 100000 in
theorem lc_6 (C : CW p s m #[Value.ref b] meth c cL_law 4 RL D cy zz (fun q => s.heap.size ≤ q)) (hX : va_X b L xs s s.heap) (hbl : b < s.heap.size) (hL : L ≤ 3584) {i : Nat} (hi : i + 7 ≤ L) {ad ae : Nat → Nat} {M R : Mem} (h : Sim M R) (hc : cells ≤ room_1.cells ∧ slots ≤ room_1.slots) {H : Heap} {locs : List Loc} {ls : Array Slot} (hP : va_P D vwCl (pool cy ad 0 82 M ++ pool cy ae 100 21 R) H) (hD : va_D (fun q => s.heap.size ≤ q) (pool cy ad 0 82 M ++ pool cy ae 100 21 R)) (hS : va_S (fun q => s.heap.size ≤ q) s.heap H locs) (hl : lv_has ls 4 [(3, .int (nI i)), (2, .ref (ae 100)), (1, .ref (ad 0)), (0, .ref b)])
    (kk : ∀ (M R : Mem) (H : Heap) (locs : List Loc), Sim M R → va_P D vwCl (pool cy ad 0 82 M ++ pool cy ae 100 21 R) H → va_D (fun q => s.heap.size ≤ q) (pool cy ad 0 82 M ++ pool cy ae 100 21 R) → va_S (fun q => s.heap.size ≤ q) s.heap H locs → W p l e room_1 s m #[Value.ref b] below meth c H locs cells slots Q (F0 m 1560 ls [])) : W p l e room_1 s m #[Value.ref b] below meth c H locs cells slots Q (F0 m 390 ls []) := by
  obtain ⟨hx, hb, hml, hown, hts, hlk, hK, hN2, hA, hX2⟩ := id C
  obtain ⟨r, M2, R2, e1, e2, h2⟩ := st_asks (N := 300) (by decide) (xs (i + 1)) (xs (i + 2)) h
  refine lv_aload_n hx hb dL_law_390 rfl (lv_at hl 2 rfl) ?_
  refine lv_aload_n hx hb dL_law_391 rfl (lv_at hl 3 rfl) ?_
  refine lv_iload_n hx hb dL_law_392 rfl (lv_at hl 0 rfl) ?_
  refine lv_iconst (v := 1) hx hb dL_law_393 (by decide) ?_
  refine lv_iadd hx hb dL_law_394 ?_
  refine ld_s (j := i + 1) C hX hbl hS hL (by omega) (nI_add i 1) dL_law_395 ?_
  refine lv_aload_n hx hb dL_law_396 rfl (lv_at hl 3 rfl) ?_
  refine lv_iload_n hx hb dL_law_397 rfl (lv_at hl 0 rfl) ?_
  refine lv_iconst (v := 2) hx hb dL_law_398 (by decide) ?_
  refine lv_iadd hx hb dL_law_399 ?_
  refine ld_s (j := i + 2) C hX hbl hS hL (by omega) (nI_add i 2) dL_law_400 ?_
  refine cw_pi (ad := ad) (b := 0) (n := 82) (M := M) (M' := M2) (ws := pool cy ae 100 21 R) (j := ad 0) (As := [.int (xs (i + 1)), .int (xs (i + 2))]) (rest := []) C hP hD hS (c_X5_asks e1) (recv_pool (b := 0) (n := 82) hK hP ⟨by decide, by decide⟩ (ent_5 rfl) (ci := 5) rfl) (gV wd_451 wd_452 wd_453 wd_64 wd_454) evL_X5_asks ⟨rfl, rfl⟩ ⟨(Nat.le_of_ble_eq_true rfl), (Nat.le_of_ble_eq_true rfl)⟩ hl.1 rfl (Nat.le_of_ble_eq_true rfl) dL_law_401 hc (fun H locs hP hD hS => ?_)
  replace hP : va_P D vwCl (pool cy ae 100 21 R ++ pool cy ad 0 82 M2) H := hP.pm List.perm_append_comm
  replace hD : va_D (fun q => s.heap.size ≤ q) (pool cy ae 100 21 R ++ pool cy ad 0 82 M2) := hD.pm List.perm_append_comm
  refine lv_aload_n hx hb dL_law_404 rfl (lv_at hl 1 rfl) ?_
  refine lv_aload_n hx hb dL_law_405 rfl (lv_at hl 3 rfl) ?_
  refine lv_iload_n hx hb dL_law_406 rfl (lv_at hl 0 rfl) ?_
  refine lv_iconst (v := 1) hx hb dL_law_407 (by decide) ?_
  refine lv_iadd hx hb dL_law_408 ?_
  refine ld_s (j := i + 1) C hX hbl hS hL (by omega) (nI_add i 1) dL_law_409 ?_
  refine lv_aload_n hx hb dL_law_410 rfl (lv_at hl 3 rfl) ?_
  refine lv_iload_n hx hb dL_law_411 rfl (lv_at hl 0 rfl) ?_
  refine lv_iconst (v := 2) hx hb dL_law_412 (by decide) ?_
  refine lv_iadd hx hb dL_law_413 ?_
  refine ld_s (j := i + 2) C hX hbl hS hL (by omega) (nI_add i 2) dL_law_414 ?_
  refine cw_pi (ad := ae) (b := 100) (n := 21) (M := R) (M' := R2) (ws := pool cy ad 0 82 M2) (j := ae 100) (As := [.int (xs (i + 1)), .int (xs (i + 2))]) (rest := [.int r]) C hP hD hS (c_X6_asks e2) (recv_pool (b := 100) (n := 21) hK hP ⟨by decide, by decide⟩ (ent_6 rfl) (ci := 6) rfl) (gV wd_1030 wd_1031 wd_1032 wd_75 wd_1033) evL_X6_asks ⟨rfl, rfl⟩ ⟨(Nat.le_of_ble_eq_true rfl), (Nat.le_of_ble_eq_true rfl)⟩ hl.1 rfl (Nat.le_of_ble_eq_true rfl) dL_law_415 hc (fun H locs hP hD hS => ?_)
  refine lv_icmp_eq (tgt := 1560) hx hb dL_law_418 (by decide) (fun _ => ?_) (fun z => absurd rfl z)
  exact kk M2 R2 H locs h2 (hP.pm List.perm_append_comm) (hD.pm List.perm_append_comm) hS

set_option maxHeartbeats 4000000 in
set_option maxRecDepth 100000 in
theorem lc_7 (C : CW p s m #[Value.ref b] meth c cL_law 4 RL D cy zz (fun q => s.heap.size ≤ q)) (hX : va_X b L xs s s.heap) (hbl : b < s.heap.size) (hL : L ≤ 3584) {i : Nat} (hi : i + 7 ≤ L) {ad ae : Nat → Nat} {M R : Mem} (h : Sim M R) (hc : cells ≤ room_1.cells ∧ slots ≤ room_1.slots) {H : Heap} {locs : List Loc} {ls : Array Slot} (hP : va_P D vwCl (pool cy ad 0 82 M ++ pool cy ae 100 21 R) H) (hD : va_D (fun q => s.heap.size ≤ q) (pool cy ad 0 82 M ++ pool cy ae 100 21 R)) (hS : va_S (fun q => s.heap.size ≤ q) s.heap H locs) (hl : lv_has ls 4 [(3, .int (nI i)), (2, .ref (ae 100)), (1, .ref (ad 0)), (0, .ref b)])
    (kk : ∀ (M R : Mem) (H : Heap) (locs : List Loc), Sim M R → va_P D vwCl (pool cy ad 0 82 M ++ pool cy ae 100 21 R) H → va_D (fun q => s.heap.size ≤ q) (pool cy ad 0 82 M ++ pool cy ae 100 21 R) → va_S (fun q => s.heap.size ≤ q) s.heap H locs → W p l e room_1 s m #[Value.ref b] below meth c H locs cells slots Q (F0 m 1560 ls [])) : W p l e room_1 s m #[Value.ref b] below meth c H locs cells slots Q (F0 m 423 ls []) := by
  obtain ⟨hx, hb, hml, hown, hts, hlk, hK, hN2, hA, hX2⟩ := id C
  obtain ⟨r, M2, R2, e1, e2, h2⟩ := st_sleeper (xs (i + 1)) (xs (i + 2)) h
  refine lv_aload_n hx hb dL_law_423 rfl (lv_at hl 2 rfl) ?_
  refine lv_aload_n hx hb dL_law_424 rfl (lv_at hl 3 rfl) ?_
  refine lv_iload_n hx hb dL_law_425 rfl (lv_at hl 0 rfl) ?_
  refine lv_iconst (v := 1) hx hb dL_law_426 (by decide) ?_
  refine lv_iadd hx hb dL_law_427 ?_
  refine ld_s (j := i + 1) C hX hbl hS hL (by omega) (nI_add i 1) dL_law_428 ?_
  refine lv_aload_n hx hb dL_law_429 rfl (lv_at hl 3 rfl) ?_
  refine lv_iload_n hx hb dL_law_430 rfl (lv_at hl 0 rfl) ?_
  refine lv_iconst (v := 2) hx hb dL_law_431 (by decide) ?_
  refine lv_iadd hx hb dL_law_432 ?_
  refine ld_s (j := i + 2) C hX hbl hS hL (by omega) (nI_add i 2) dL_law_433 ?_
  refine cw_pi (ad := ad) (b := 0) (n := 82) (M := M) (M' := M2) (ws := pool cy ae 100 21 R) (j := ad 0) (As := [.int (xs (i + 1)), .int (xs (i + 2))]) (rest := []) C hP hD hS (c_X5_sleeper e1) (recv_pool (b := 0) (n := 82) hK hP ⟨by decide, by decide⟩ (ent_5 rfl) (ci := 5) rfl) (gV wd_488 wd_489 wd_490 wd_64 wd_491) evL_X5_sleeper ⟨rfl, rfl⟩ ⟨(Nat.le_of_ble_eq_true rfl), (Nat.le_of_ble_eq_true rfl)⟩ hl.1 rfl (Nat.le_of_ble_eq_true rfl) dL_law_434 hc (fun H locs hP hD hS => ?_)
  replace hP : va_P D vwCl (pool cy ae 100 21 R ++ pool cy ad 0 82 M2) H := hP.pm List.perm_append_comm
  replace hD : va_D (fun q => s.heap.size ≤ q) (pool cy ae 100 21 R ++ pool cy ad 0 82 M2) := hD.pm List.perm_append_comm
  refine lv_aload_n hx hb dL_law_437 rfl (lv_at hl 1 rfl) ?_
  refine lv_aload_n hx hb dL_law_438 rfl (lv_at hl 3 rfl) ?_
  refine lv_iload_n hx hb dL_law_439 rfl (lv_at hl 0 rfl) ?_
  refine lv_iconst (v := 1) hx hb dL_law_440 (by decide) ?_
  refine lv_iadd hx hb dL_law_441 ?_
  refine ld_s (j := i + 1) C hX hbl hS hL (by omega) (nI_add i 1) dL_law_442 ?_
  refine lv_aload_n hx hb dL_law_443 rfl (lv_at hl 3 rfl) ?_
  refine lv_iload_n hx hb dL_law_444 rfl (lv_at hl 0 rfl) ?_
  refine lv_iconst (v := 2) hx hb dL_law_445 (by decide) ?_
  refine lv_iadd hx hb dL_law_446 ?_
  refine ld_s (j := i + 2) C hX hbl hS hL (by omega) (nI_add i 2) dL_law_447 ?_
  refine cw_pi (ad := ae) (b := 100) (n := 21) (M := R) (M' := R2) (ws := pool cy ad 0 82 M2) (j := ae 100) (As := [.int (xs (i + 1)), .int (xs (i + 2))]) (rest := [.int r]) C hP hD hS (c_X6_sleeper e2) (recv_pool (b := 100) (n := 21) hK hP ⟨by decide, by decide⟩ (ent_6 rfl) (ci := 6) rfl) (gV wd_1052 wd_1053 wd_1054 wd_75 wd_1055) evL_X6_sleeper ⟨rfl, rfl⟩ ⟨(Nat.le_of_ble_eq_true rfl), (Nat.le_of_ble_eq_true rfl)⟩ hl.1 rfl (Nat.le_of_ble_eq_true rfl) dL_law_448 hc (fun H locs hP hD hS => ?_)
  refine lv_icmp_eq (tgt := 1560) hx hb dL_law_451 (by decide) (fun _ => ?_) (fun z => absurd rfl z)
  exact kk M2 R2 H locs h2 (hP.pm List.perm_append_comm) (hD.pm List.perm_append_comm) hS

set_option maxHeartbeats 4000000 in
set_option maxRecDepth 100000 in
theorem lc_8 (C : CW p s m #[Value.ref b] meth c cL_law 4 RL D cy zz (fun q => s.heap.size ≤ q)) (hX : va_X b L xs s s.heap) (hbl : b < s.heap.size) (hL : L ≤ 3584) {i : Nat} (hi : i + 7 ≤ L) {ad ae : Nat → Nat} {M R : Mem} (h : Sim M R) (hc : cells ≤ room_1.cells ∧ slots ≤ room_1.slots) {H : Heap} {locs : List Loc} {ls : Array Slot} (hP : va_P D vwCl (pool cy ad 0 82 M ++ pool cy ae 100 21 R) H) (hD : va_D (fun q => s.heap.size ≤ q) (pool cy ad 0 82 M ++ pool cy ae 100 21 R)) (hS : va_S (fun q => s.heap.size ≤ q) s.heap H locs) (hl : lv_has ls 4 [(3, .int (nI i)), (2, .ref (ae 100)), (1, .ref (ad 0)), (0, .ref b)])
    (kk : ∀ (M R : Mem) (H : Heap) (locs : List Loc), Sim M R → va_P D vwCl (pool cy ad 0 82 M ++ pool cy ae 100 21 R) H → va_D (fun q => s.heap.size ≤ q) (pool cy ad 0 82 M ++ pool cy ae 100 21 R) → va_S (fun q => s.heap.size ≤ q) s.heap H locs → W p l e room_1 s m #[Value.ref b] below meth c H locs cells slots Q (F0 m 1560 ls [])) : W p l e room_1 s m #[Value.ref b] below meth c H locs cells slots Q (F0 m 456 ls []) := by
  obtain ⟨hx, hb, hml, hown, hts, hlk, hK, hN2, hA, hX2⟩ := id C
  obtain ⟨r, M2, R2, e1, e2, h2⟩ := st_put (xs (i + 1)) (xs (i + 2)) (xs (i + 3)) h
  refine lv_aload_n hx hb dL_law_456 rfl (lv_at hl 2 rfl) ?_
  refine lv_aload_n hx hb dL_law_457 rfl (lv_at hl 3 rfl) ?_
  refine lv_iload_n hx hb dL_law_458 rfl (lv_at hl 0 rfl) ?_
  refine lv_iconst (v := 1) hx hb dL_law_459 (by decide) ?_
  refine lv_iadd hx hb dL_law_460 ?_
  refine ld_s (j := i + 1) C hX hbl hS hL (by omega) (nI_add i 1) dL_law_461 ?_
  refine lv_aload_n hx hb dL_law_462 rfl (lv_at hl 3 rfl) ?_
  refine lv_iload_n hx hb dL_law_463 rfl (lv_at hl 0 rfl) ?_
  refine lv_iconst (v := 2) hx hb dL_law_464 (by decide) ?_
  refine lv_iadd hx hb dL_law_465 ?_
  refine ld_s (j := i + 2) C hX hbl hS hL (by omega) (nI_add i 2) dL_law_466 ?_
  refine lv_aload_n hx hb dL_law_467 rfl (lv_at hl 3 rfl) ?_
  refine lv_iload_n hx hb dL_law_468 rfl (lv_at hl 0 rfl) ?_
  refine lv_iconst (v := 3) hx hb dL_law_469 (by decide) ?_
  refine lv_iadd hx hb dL_law_470 ?_
  refine ld_s (j := i + 3) C hX hbl hS hL (by omega) (nI_add i 3) dL_law_471 ?_
  refine cw_pi (ad := ad) (b := 0) (n := 82) (M := M) (M' := M2) (ws := pool cy ae 100 21 R) (j := ad 0) (As := [.int (xs (i + 1)), .int (xs (i + 2)), .int (xs (i + 3))]) (rest := []) C hP hD hS (c_X5_put e1) (recv_pool (b := 0) (n := 82) hK hP ⟨by decide, by decide⟩ (ent_5 rfl) (ci := 5) rfl) (gV wd_506 wd_507 wd_508 wd_64 wd_509) evL_X5_put ⟨rfl, rfl⟩ ⟨(Nat.le_of_ble_eq_true rfl), (Nat.le_of_ble_eq_true rfl)⟩ hl.1 rfl (Nat.le_of_ble_eq_true rfl) dL_law_472 hc (fun H locs hP hD hS => ?_)
  replace hP : va_P D vwCl (pool cy ae 100 21 R ++ pool cy ad 0 82 M2) H := hP.pm List.perm_append_comm
  replace hD : va_D (fun q => s.heap.size ≤ q) (pool cy ae 100 21 R ++ pool cy ad 0 82 M2) := hD.pm List.perm_append_comm
  refine lv_aload_n hx hb dL_law_475 rfl (lv_at hl 1 rfl) ?_
  refine lv_aload_n hx hb dL_law_476 rfl (lv_at hl 3 rfl) ?_
  refine lv_iload_n hx hb dL_law_477 rfl (lv_at hl 0 rfl) ?_
  refine lv_iconst (v := 1) hx hb dL_law_478 (by decide) ?_
  refine lv_iadd hx hb dL_law_479 ?_
  refine ld_s (j := i + 1) C hX hbl hS hL (by omega) (nI_add i 1) dL_law_480 ?_
  refine lv_aload_n hx hb dL_law_481 rfl (lv_at hl 3 rfl) ?_
  refine lv_iload_n hx hb dL_law_482 rfl (lv_at hl 0 rfl) ?_
  refine lv_iconst (v := 2) hx hb dL_law_483 (by decide) ?_
  refine lv_iadd hx hb dL_law_484 ?_
  refine ld_s (j := i + 2) C hX hbl hS hL (by omega) (nI_add i 2) dL_law_485 ?_
  refine lv_aload_n hx hb dL_law_486 rfl (lv_at hl 3 rfl) ?_
  refine lv_iload_n hx hb dL_law_487 rfl (lv_at hl 0 rfl) ?_
  refine lv_iconst (v := 3) hx hb dL_law_488 (by decide) ?_
  refine lv_iadd hx hb dL_law_489 ?_
  refine ld_s (j := i + 3) C hX hbl hS hL (by omega) (nI_add i 3) dL_law_490 ?_
  refine cw_pi (ad := ae) (b := 100) (n := 21) (M := R) (M' := R2) (ws := pool cy ad 0 82 M2) (j := ae 100) (As := [.int (xs (i + 1)), .int (xs (i + 2)), .int (xs (i + 3))]) (rest := [.int r]) C hP hD hS (c_X6_put e2) (recv_pool (b := 100) (n := 21) hK hP ⟨by decide, by decide⟩ (ent_6 rfl) (ci := 6) rfl) (gV wd_1056 wd_1057 wd_1058 wd_75 wd_1059) evL_X6_put ⟨rfl, rfl⟩ ⟨(Nat.le_of_ble_eq_true rfl), (Nat.le_of_ble_eq_true rfl)⟩ hl.1 rfl (Nat.le_of_ble_eq_true rfl) dL_law_491 hc (fun H locs hP hD hS => ?_)
  refine lv_icmp_eq (tgt := 1560) hx hb dL_law_494 (by decide) (fun _ => ?_) (fun z => absurd rfl z)
  exact kk M2 R2 H locs h2 (hP.pm List.perm_append_comm) (hD.pm List.perm_append_comm) hS

set_option maxHeartbeats 4000000 in
set_option maxRecDepth 100000 in
theorem lc_9 (C : CW p s m #[Value.ref b] meth c cL_law 4 RL D cy zz (fun q => s.heap.size ≤ q)) (hX : va_X b L xs s s.heap) (hbl : b < s.heap.size) (hL : L ≤ 3584) {i : Nat} (hi : i + 7 ≤ L) {ad ae : Nat → Nat} {M R : Mem} (h : Sim M R) (hc : cells ≤ room_1.cells ∧ slots ≤ room_1.slots) {H : Heap} {locs : List Loc} {ls : Array Slot} (hP : va_P D vwCl (pool cy ad 0 82 M ++ pool cy ae 100 21 R) H) (hD : va_D (fun q => s.heap.size ≤ q) (pool cy ad 0 82 M ++ pool cy ae 100 21 R)) (hS : va_S (fun q => s.heap.size ≤ q) s.heap H locs) (hl : lv_has ls 4 [(3, .int (nI i)), (2, .ref (ae 100)), (1, .ref (ad 0)), (0, .ref b)])
    (kk : ∀ (M R : Mem) (H : Heap) (locs : List Loc), Sim M R → va_P D vwCl (pool cy ad 0 82 M ++ pool cy ae 100 21 R) H → va_D (fun q => s.heap.size ≤ q) (pool cy ad 0 82 M ++ pool cy ae 100 21 R) → va_S (fun q => s.heap.size ≤ q) s.heap H locs → W p l e room_1 s m #[Value.ref b] below meth c H locs cells slots Q (F0 m 1560 ls [])) : W p l e room_1 s m #[Value.ref b] below meth c H locs cells slots Q (F0 m 499 ls []) := by
  obtain ⟨hx, hb, hml, hown, hts, hlk, hK, hN2, hA, hX2⟩ := id C
  obtain ⟨r, M2, R2, e1, e2, h2⟩ := st_told (N := 300) (by decide) (xs (i + 1)) (xs (i + 2)) h
  refine lv_aload_n hx hb dL_law_499 rfl (lv_at hl 2 rfl) ?_
  refine lv_aload_n hx hb dL_law_500 rfl (lv_at hl 3 rfl) ?_
  refine lv_iload_n hx hb dL_law_501 rfl (lv_at hl 0 rfl) ?_
  refine lv_iconst (v := 1) hx hb dL_law_502 (by decide) ?_
  refine lv_iadd hx hb dL_law_503 ?_
  refine ld_s (j := i + 1) C hX hbl hS hL (by omega) (nI_add i 1) dL_law_504 ?_
  refine lv_aload_n hx hb dL_law_505 rfl (lv_at hl 3 rfl) ?_
  refine lv_iload_n hx hb dL_law_506 rfl (lv_at hl 0 rfl) ?_
  refine lv_iconst (v := 2) hx hb dL_law_507 (by decide) ?_
  refine lv_iadd hx hb dL_law_508 ?_
  refine ld_s (j := i + 2) C hX hbl hS hL (by omega) (nI_add i 2) dL_law_509 ?_
  refine cw_pi (ad := ad) (b := 0) (n := 82) (M := M) (M' := M2) (ws := pool cy ae 100 21 R) (j := ad 0) (As := [.int (xs (i + 1)), .int (xs (i + 2))]) (rest := []) C hP hD hS (c_X5_told e1) (recv_pool (b := 0) (n := 82) hK hP ⟨by decide, by decide⟩ (ent_5 rfl) (ci := 5) rfl) (gV wd_522 wd_523 wd_524 wd_64 wd_525) evL_X5_told ⟨rfl, rfl⟩ ⟨(Nat.le_of_ble_eq_true rfl), (Nat.le_of_ble_eq_true rfl)⟩ hl.1 rfl (Nat.le_of_ble_eq_true rfl) dL_law_510 hc (fun H locs hP hD hS => ?_)
  replace hP : va_P D vwCl (pool cy ae 100 21 R ++ pool cy ad 0 82 M2) H := hP.pm List.perm_append_comm
  replace hD : va_D (fun q => s.heap.size ≤ q) (pool cy ae 100 21 R ++ pool cy ad 0 82 M2) := hD.pm List.perm_append_comm
  refine lv_aload_n hx hb dL_law_513 rfl (lv_at hl 1 rfl) ?_
  refine lv_aload_n hx hb dL_law_514 rfl (lv_at hl 3 rfl) ?_
  refine lv_iload_n hx hb dL_law_515 rfl (lv_at hl 0 rfl) ?_
  refine lv_iconst (v := 1) hx hb dL_law_516 (by decide) ?_
  refine lv_iadd hx hb dL_law_517 ?_
  refine ld_s (j := i + 1) C hX hbl hS hL (by omega) (nI_add i 1) dL_law_518 ?_
  refine lv_aload_n hx hb dL_law_519 rfl (lv_at hl 3 rfl) ?_
  refine lv_iload_n hx hb dL_law_520 rfl (lv_at hl 0 rfl) ?_
  refine lv_iconst (v := 2) hx hb dL_law_521 (by decide) ?_
  refine lv_iadd hx hb dL_law_522 ?_
  refine ld_s (j := i + 2) C hX hbl hS hL (by omega) (nI_add i 2) dL_law_523 ?_
  refine cw_pi (ad := ae) (b := 100) (n := 21) (M := R) (M' := R2) (ws := pool cy ad 0 82 M2) (j := ae 100) (As := [.int (xs (i + 1)), .int (xs (i + 2))]) (rest := [.int r]) C hP hD hS (c_X6_told e2) (recv_pool (b := 100) (n := 21) hK hP ⟨by decide, by decide⟩ (ent_6 rfl) (ci := 6) rfl) (gV wd_1060 wd_1061 wd_1062 wd_75 wd_1063) evL_X6_told ⟨rfl, rfl⟩ ⟨(Nat.le_of_ble_eq_true rfl), (Nat.le_of_ble_eq_true rfl)⟩ hl.1 rfl (Nat.le_of_ble_eq_true rfl) dL_law_524 hc (fun H locs hP hD hS => ?_)
  refine lv_icmp_eq (tgt := 1560) hx hb dL_law_527 (by decide) (fun _ => ?_) (fun z => absurd rfl z)
  exact kk M2 R2 H locs h2 (hP.pm List.perm_append_comm) (hD.pm List.perm_append_comm) hS

set_option maxHeartbeats 4000000 in
set_option maxRecDepth 100000 in
theorem lc_10 (C : CW p s m #[Value.ref b] meth c cL_law 4 RL D cy zz (fun q => s.heap.size ≤ q)) (hX : va_X b L xs s s.heap) (hbl : b < s.heap.size) (hL : L ≤ 3584) {i : Nat} (hi : i + 7 ≤ L) {ad ae : Nat → Nat} {M R : Mem} (h : Sim M R) (hc : cells ≤ room_1.cells ∧ slots ≤ room_1.slots) {H : Heap} {locs : List Loc} {ls : Array Slot} (hP : va_P D vwCl (pool cy ad 0 82 M ++ pool cy ae 100 21 R) H) (hD : va_D (fun q => s.heap.size ≤ q) (pool cy ad 0 82 M ++ pool cy ae 100 21 R)) (hS : va_S (fun q => s.heap.size ≤ q) s.heap H locs) (hl : lv_has ls 4 [(3, .int (nI i)), (2, .ref (ae 100)), (1, .ref (ad 0)), (0, .ref b)])
    (kk : ∀ (M R : Mem) (H : Heap) (locs : List Loc), Sim M R → va_P D vwCl (pool cy ad 0 82 M ++ pool cy ae 100 21 R) H → va_D (fun q => s.heap.size ≤ q) (pool cy ad 0 82 M ++ pool cy ae 100 21 R) → va_S (fun q => s.heap.size ≤ q) s.heap H locs → W p l e room_1 s m #[Value.ref b] below meth c H locs cells slots Q (F0 m 1560 ls [])) : W p l e room_1 s m #[Value.ref b] below meth c H locs cells slots Q (F0 m 532 ls []) := by
  obtain ⟨hx, hb, hml, hown, hts, hlk, hK, hN2, hA, hX2⟩ := id C
  obtain ⟨r, M2, R2, e1, e2, h2⟩ := st_knit (N := 300) (by decide) (xs (i + 1)) (xs (i + 2)) h
  refine lv_aload_n hx hb dL_law_532 rfl (lv_at hl 2 rfl) ?_
  refine lv_aload_n hx hb dL_law_533 rfl (lv_at hl 3 rfl) ?_
  refine lv_iload_n hx hb dL_law_534 rfl (lv_at hl 0 rfl) ?_
  refine lv_iconst (v := 1) hx hb dL_law_535 (by decide) ?_
  refine lv_iadd hx hb dL_law_536 ?_
  refine ld_s (j := i + 1) C hX hbl hS hL (by omega) (nI_add i 1) dL_law_537 ?_
  refine lv_aload_n hx hb dL_law_538 rfl (lv_at hl 3 rfl) ?_
  refine lv_iload_n hx hb dL_law_539 rfl (lv_at hl 0 rfl) ?_
  refine lv_iconst (v := 2) hx hb dL_law_540 (by decide) ?_
  refine lv_iadd hx hb dL_law_541 ?_
  refine ld_s (j := i + 2) C hX hbl hS hL (by omega) (nI_add i 2) dL_law_542 ?_
  refine cw_pi (ad := ad) (b := 0) (n := 82) (M := M) (M' := M2) (ws := pool cy ae 100 21 R) (j := ad 0) (As := [.int (xs (i + 1)), .int (xs (i + 2))]) (rest := []) C hP hD hS (c_X5_knit e1) (recv_pool (b := 0) (n := 82) hK hP ⟨by decide, by decide⟩ (ent_5 rfl) (ci := 5) rfl) (gV wd_548 wd_549 wd_550 wd_64 wd_551) evL_X5_knit ⟨rfl, rfl⟩ ⟨(Nat.le_of_ble_eq_true rfl), (Nat.le_of_ble_eq_true rfl)⟩ hl.1 rfl (Nat.le_of_ble_eq_true rfl) dL_law_543 hc (fun H locs hP hD hS => ?_)
  replace hP : va_P D vwCl (pool cy ae 100 21 R ++ pool cy ad 0 82 M2) H := hP.pm List.perm_append_comm
  replace hD : va_D (fun q => s.heap.size ≤ q) (pool cy ae 100 21 R ++ pool cy ad 0 82 M2) := hD.pm List.perm_append_comm
  refine lv_aload_n hx hb dL_law_546 rfl (lv_at hl 1 rfl) ?_
  refine lv_aload_n hx hb dL_law_547 rfl (lv_at hl 3 rfl) ?_
  refine lv_iload_n hx hb dL_law_548 rfl (lv_at hl 0 rfl) ?_
  refine lv_iconst (v := 1) hx hb dL_law_549 (by decide) ?_
  refine lv_iadd hx hb dL_law_550 ?_
  refine ld_s (j := i + 1) C hX hbl hS hL (by omega) (nI_add i 1) dL_law_551 ?_
  refine lv_aload_n hx hb dL_law_552 rfl (lv_at hl 3 rfl) ?_
  refine lv_iload_n hx hb dL_law_553 rfl (lv_at hl 0 rfl) ?_
  refine lv_iconst (v := 2) hx hb dL_law_554 (by decide) ?_
  refine lv_iadd hx hb dL_law_555 ?_
  refine ld_s (j := i + 2) C hX hbl hS hL (by omega) (nI_add i 2) dL_law_556 ?_
  refine cw_pi (ad := ae) (b := 100) (n := 21) (M := R) (M' := R2) (ws := pool cy ad 0 82 M2) (j := ae 100) (As := [.int (xs (i + 1)), .int (xs (i + 2))]) (rest := [.int r]) C hP hD hS (c_X6_knit e2) (recv_pool (b := 100) (n := 21) hK hP ⟨by decide, by decide⟩ (ent_6 rfl) (ci := 6) rfl) (gV wd_1076 wd_1077 wd_1078 wd_75 wd_1079) evL_X6_knit ⟨rfl, rfl⟩ ⟨(Nat.le_of_ble_eq_true rfl), (Nat.le_of_ble_eq_true rfl)⟩ hl.1 rfl (Nat.le_of_ble_eq_true rfl) dL_law_557 hc (fun H locs hP hD hS => ?_)
  refine lv_icmp_eq (tgt := 1560) hx hb dL_law_560 (by decide) (fun _ => ?_) (fun z => absurd rfl z)
  exact kk M2 R2 H locs h2 (hP.pm List.perm_append_comm) (hD.pm List.perm_append_comm) hS

set_option maxHeartbeats 4000000 in
set_option maxRecDepth 100000 in
theorem lc_11 (C : CW p s m #[Value.ref b] meth c cL_law 4 RL D cy zz (fun q => s.heap.size ≤ q)) (hX : va_X b L xs s s.heap) (hbl : b < s.heap.size) (hL : L ≤ 3584) {i : Nat} (hi : i + 7 ≤ L) {ad ae : Nat → Nat} {M R : Mem} (h : Sim M R) (hc : cells ≤ room_1.cells ∧ slots ≤ room_1.slots) {H : Heap} {locs : List Loc} {ls : Array Slot} (hP : va_P D vwCl (pool cy ad 0 82 M ++ pool cy ae 100 21 R) H) (hD : va_D (fun q => s.heap.size ≤ q) (pool cy ad 0 82 M ++ pool cy ae 100 21 R)) (hS : va_S (fun q => s.heap.size ≤ q) s.heap H locs) (hl : lv_has ls 4 [(3, .int (nI i)), (2, .ref (ae 100)), (1, .ref (ad 0)), (0, .ref b)])
    (kk : ∀ (M R : Mem) (H : Heap) (locs : List Loc), Sim M R → va_P D vwCl (pool cy ad 0 82 M ++ pool cy ae 100 21 R) H → va_D (fun q => s.heap.size ≤ q) (pool cy ad 0 82 M ++ pool cy ae 100 21 R) → va_S (fun q => s.heap.size ≤ q) s.heap H locs → W p l e room_1 s m #[Value.ref b] below meth c H locs cells slots Q (F0 m 1560 ls [])) : W p l e room_1 s m #[Value.ref b] below meth c H locs cells slots Q (F0 m 565 ls []) := by
  obtain ⟨hx, hb, hml, hown, hts, hlk, hK, hN2, hA, hX2⟩ := id C
  obtain ⟨r, M2, R2, e1, e2, h2⟩ := st_darn (xs (i + 1)) (xs (i + 2)) (xs (i + 3)) h
  refine lv_aload_n hx hb dL_law_565 rfl (lv_at hl 2 rfl) ?_
  refine lv_aload_n hx hb dL_law_566 rfl (lv_at hl 3 rfl) ?_
  refine lv_iload_n hx hb dL_law_567 rfl (lv_at hl 0 rfl) ?_
  refine lv_iconst (v := 1) hx hb dL_law_568 (by decide) ?_
  refine lv_iadd hx hb dL_law_569 ?_
  refine ld_s (j := i + 1) C hX hbl hS hL (by omega) (nI_add i 1) dL_law_570 ?_
  refine lv_aload_n hx hb dL_law_571 rfl (lv_at hl 3 rfl) ?_
  refine lv_iload_n hx hb dL_law_572 rfl (lv_at hl 0 rfl) ?_
  refine lv_iconst (v := 2) hx hb dL_law_573 (by decide) ?_
  refine lv_iadd hx hb dL_law_574 ?_
  refine ld_s (j := i + 2) C hX hbl hS hL (by omega) (nI_add i 2) dL_law_575 ?_
  refine lv_aload_n hx hb dL_law_576 rfl (lv_at hl 3 rfl) ?_
  refine lv_iload_n hx hb dL_law_577 rfl (lv_at hl 0 rfl) ?_
  refine lv_iconst (v := 3) hx hb dL_law_578 (by decide) ?_
  refine lv_iadd hx hb dL_law_579 ?_
  refine ld_s (j := i + 3) C hX hbl hS hL (by omega) (nI_add i 3) dL_law_580 ?_
  refine cw_pi (ad := ad) (b := 0) (n := 82) (M := M) (M' := M2) (ws := pool cy ae 100 21 R) (j := ad 0) (As := [.int (xs (i + 1)), .int (xs (i + 2)), .int (xs (i + 3))]) (rest := []) C hP hD hS (c_X5_darn e1) (recv_pool (b := 0) (n := 82) hK hP ⟨by decide, by decide⟩ (ent_5 rfl) (ci := 5) rfl) (gV wd_580 wd_581 wd_582 wd_64 wd_583) evL_X5_darn ⟨rfl, rfl⟩ ⟨(Nat.le_of_ble_eq_true rfl), (Nat.le_of_ble_eq_true rfl)⟩ hl.1 rfl (Nat.le_of_ble_eq_true rfl) dL_law_581 hc (fun H locs hP hD hS => ?_)
  replace hP : va_P D vwCl (pool cy ae 100 21 R ++ pool cy ad 0 82 M2) H := hP.pm List.perm_append_comm
  replace hD : va_D (fun q => s.heap.size ≤ q) (pool cy ae 100 21 R ++ pool cy ad 0 82 M2) := hD.pm List.perm_append_comm
  refine lv_aload_n hx hb dL_law_584 rfl (lv_at hl 1 rfl) ?_
  refine lv_aload_n hx hb dL_law_585 rfl (lv_at hl 3 rfl) ?_
  refine lv_iload_n hx hb dL_law_586 rfl (lv_at hl 0 rfl) ?_
  refine lv_iconst (v := 1) hx hb dL_law_587 (by decide) ?_
  refine lv_iadd hx hb dL_law_588 ?_
  refine ld_s (j := i + 1) C hX hbl hS hL (by omega) (nI_add i 1) dL_law_589 ?_
  refine lv_aload_n hx hb dL_law_590 rfl (lv_at hl 3 rfl) ?_
  refine lv_iload_n hx hb dL_law_591 rfl (lv_at hl 0 rfl) ?_
  refine lv_iconst (v := 2) hx hb dL_law_592 (by decide) ?_
  refine lv_iadd hx hb dL_law_593 ?_
  refine ld_s (j := i + 2) C hX hbl hS hL (by omega) (nI_add i 2) dL_law_594 ?_
  refine lv_aload_n hx hb dL_law_595 rfl (lv_at hl 3 rfl) ?_
  refine lv_iload_n hx hb dL_law_596 rfl (lv_at hl 0 rfl) ?_
  refine lv_iconst (v := 3) hx hb dL_law_597 (by decide) ?_
  refine lv_iadd hx hb dL_law_598 ?_
  refine ld_s (j := i + 3) C hX hbl hS hL (by omega) (nI_add i 3) dL_law_599 ?_
  refine cw_pi (ad := ae) (b := 100) (n := 21) (M := R) (M' := R2) (ws := pool cy ad 0 82 M2) (j := ae 100) (As := [.int (xs (i + 1)), .int (xs (i + 2)), .int (xs (i + 3))]) (rest := [.int r]) C hP hD hS (c_X6_darn e2) (recv_pool (b := 100) (n := 21) hK hP ⟨by decide, by decide⟩ (ent_6 rfl) (ci := 6) rfl) (gV wd_1080 wd_1081 wd_1082 wd_75 wd_1083) evL_X6_darn ⟨rfl, rfl⟩ ⟨(Nat.le_of_ble_eq_true rfl), (Nat.le_of_ble_eq_true rfl)⟩ hl.1 rfl (Nat.le_of_ble_eq_true rfl) dL_law_600 hc (fun H locs hP hD hS => ?_)
  refine lv_icmp_eq (tgt := 1560) hx hb dL_law_603 (by decide) (fun _ => ?_) (fun z => absurd rfl z)
  exact kk M2 R2 H locs h2 (hP.pm List.perm_append_comm) (hD.pm List.perm_append_comm) hS

set_option maxHeartbeats 4000000 in
set_option maxRecDepth 100000 in
theorem lc_12 (C : CW p s m #[Value.ref b] meth c cL_law 4 RL D cy zz (fun q => s.heap.size ≤ q)) (hX : va_X b L xs s s.heap) (hbl : b < s.heap.size) (hL : L ≤ 3584) {i : Nat} (hi : i + 7 ≤ L) {ad ae : Nat → Nat} {M R : Mem} (h : Sim M R) (hc : cells ≤ room_1.cells ∧ slots ≤ room_1.slots) {H : Heap} {locs : List Loc} {ls : Array Slot} (hP : va_P D vwCl (pool cy ad 0 82 M ++ pool cy ae 100 21 R) H) (hD : va_D (fun q => s.heap.size ≤ q) (pool cy ad 0 82 M ++ pool cy ae 100 21 R)) (hS : va_S (fun q => s.heap.size ≤ q) s.heap H locs) (hl : lv_has ls 4 [(3, .int (nI i)), (2, .ref (ae 100)), (1, .ref (ad 0)), (0, .ref b)])
    (kk : ∀ (M R : Mem) (H : Heap) (locs : List Loc), Sim M R → va_P D vwCl (pool cy ad 0 82 M ++ pool cy ae 100 21 R) H → va_D (fun q => s.heap.size ≤ q) (pool cy ad 0 82 M ++ pool cy ae 100 21 R) → va_S (fun q => s.heap.size ≤ q) s.heap H locs → W p l e room_1 s m #[Value.ref b] below meth c H locs cells slots Q (F0 m 1560 ls [])) : W p l e room_1 s m #[Value.ref b] below meth c H locs cells slots Q (F0 m 608 ls []) := by
  obtain ⟨hx, hb, hml, hown, hts, hlk, hK, hN2, hA, hX2⟩ := id C
  obtain ⟨r, M2, R2, e1, e2, h2⟩ := st_night (N := 300) (by decide)  h
  refine lv_aload_n hx hb dL_law_608 rfl (lv_at hl 2 rfl) ?_
  refine cw_pi (ad := ad) (b := 0) (n := 82) (M := M) (M' := M2) (ws := pool cy ae 100 21 R) (j := ad 0) (As := []) (rest := []) C hP hD hS (c_X5_night e1) (recv_pool (b := 0) (n := 82) hK hP ⟨by decide, by decide⟩ (ent_5 rfl) (ci := 5) rfl) (gV wd_585 wd_586 wd_587 wd_64 wd_588) evL_X5_night ⟨rfl, rfl⟩ ⟨(Nat.le_of_ble_eq_true rfl), (Nat.le_of_ble_eq_true rfl)⟩ hl.1 rfl (Nat.le_of_ble_eq_true rfl) dL_law_609 hc (fun H locs hP hD hS => ?_)
  replace hP : va_P D vwCl (pool cy ae 100 21 R ++ pool cy ad 0 82 M2) H := hP.pm List.perm_append_comm
  replace hD : va_D (fun q => s.heap.size ≤ q) (pool cy ae 100 21 R ++ pool cy ad 0 82 M2) := hD.pm List.perm_append_comm
  refine lv_aload_n hx hb dL_law_612 rfl (lv_at hl 1 rfl) ?_
  refine cw_pi (ad := ae) (b := 100) (n := 21) (M := R) (M' := R2) (ws := pool cy ad 0 82 M2) (j := ae 100) (As := []) (rest := [.int r]) C hP hD hS (c_X6_night e2) (recv_pool (b := 100) (n := 21) hK hP ⟨by decide, by decide⟩ (ent_6 rfl) (ci := 6) rfl) (gV wd_1084 wd_1085 wd_1086 wd_75 wd_1087) evL_X6_night ⟨rfl, rfl⟩ ⟨(Nat.le_of_ble_eq_true rfl), (Nat.le_of_ble_eq_true rfl)⟩ hl.1 rfl (Nat.le_of_ble_eq_true rfl) dL_law_613 hc (fun H locs hP hD hS => ?_)
  refine lv_icmp_eq (tgt := 1560) hx hb dL_law_616 (by decide) (fun _ => ?_) (fun z => absurd rfl z)
  exact kk M2 R2 H locs h2 (hP.pm List.perm_append_comm) (hD.pm List.perm_append_comm) hS

set_option maxHeartbeats 4000000 in
set_option maxRecDepth 100000 in
theorem lc_13 (C : CW p s m #[Value.ref b] meth c cL_law 4 RL D cy zz (fun q => s.heap.size ≤ q)) (hX : va_X b L xs s s.heap) (hbl : b < s.heap.size) (hL : L ≤ 3584) {i : Nat} (hi : i + 7 ≤ L) {ad ae : Nat → Nat} {M R : Mem} (h : Sim M R) (hc : cells ≤ room_1.cells ∧ slots ≤ room_1.slots) {H : Heap} {locs : List Loc} {ls : Array Slot} (hP : va_P D vwCl (pool cy ad 0 82 M ++ pool cy ae 100 21 R) H) (hD : va_D (fun q => s.heap.size ≤ q) (pool cy ad 0 82 M ++ pool cy ae 100 21 R)) (hS : va_S (fun q => s.heap.size ≤ q) s.heap H locs) (hl : lv_has ls 4 [(3, .int (nI i)), (2, .ref (ae 100)), (1, .ref (ad 0)), (0, .ref b)])
    (kk : ∀ (M R : Mem) (H : Heap) (locs : List Loc), Sim M R → va_P D vwCl (pool cy ad 0 82 M ++ pool cy ae 100 21 R) H → va_D (fun q => s.heap.size ≤ q) (pool cy ad 0 82 M ++ pool cy ae 100 21 R) → va_S (fun q => s.heap.size ≤ q) s.heap H locs → W p l e room_1 s m #[Value.ref b] below meth c H locs cells slots Q (F0 m 1560 ls [])) : W p l e room_1 s m #[Value.ref b] below meth c H locs cells slots Q (F0 m 621 ls []) := by
  obtain ⟨hx, hb, hml, hown, hts, hlk, hK, hN2, hA, hX2⟩ := id C
  obtain ⟨r, M2, R2, e1, e2, h2⟩ := st_run (N := 300) (by decide) (xs (i + 1)) (xs (i + 2)) h
  refine lv_aload_n hx hb dL_law_621 rfl (lv_at hl 2 rfl) ?_
  refine lv_aload_n hx hb dL_law_622 rfl (lv_at hl 3 rfl) ?_
  refine lv_iload_n hx hb dL_law_623 rfl (lv_at hl 0 rfl) ?_
  refine lv_iconst (v := 1) hx hb dL_law_624 (by decide) ?_
  refine lv_iadd hx hb dL_law_625 ?_
  refine ld_s (j := i + 1) C hX hbl hS hL (by omega) (nI_add i 1) dL_law_626 ?_
  refine lv_aload_n hx hb dL_law_627 rfl (lv_at hl 3 rfl) ?_
  refine lv_iload_n hx hb dL_law_628 rfl (lv_at hl 0 rfl) ?_
  refine lv_iconst (v := 2) hx hb dL_law_629 (by decide) ?_
  refine lv_iadd hx hb dL_law_630 ?_
  refine ld_s (j := i + 2) C hX hbl hS hL (by omega) (nI_add i 2) dL_law_631 ?_
  refine cw_pi (ad := ad) (b := 0) (n := 82) (M := M) (M' := M2) (ws := pool cy ae 100 21 R) (j := ad 0) (As := [.int (xs (i + 1)), .int (xs (i + 2))]) (rest := []) C hP hD hS (c_X5_run e1) (recv_pool (b := 0) (n := 82) hK hP ⟨by decide, by decide⟩ (ent_5 rfl) (ci := 5) rfl) (gV wd_610 wd_611 wd_612 wd_64 wd_613) evL_X5_run ⟨rfl, rfl⟩ ⟨(Nat.le_of_ble_eq_true rfl), (Nat.le_of_ble_eq_true rfl)⟩ hl.1 rfl (Nat.le_of_ble_eq_true rfl) dL_law_632 hc (fun H locs hP hD hS => ?_)
  replace hP : va_P D vwCl (pool cy ae 100 21 R ++ pool cy ad 0 82 M2) H := hP.pm List.perm_append_comm
  replace hD : va_D (fun q => s.heap.size ≤ q) (pool cy ae 100 21 R ++ pool cy ad 0 82 M2) := hD.pm List.perm_append_comm
  refine lv_aload_n hx hb dL_law_635 rfl (lv_at hl 1 rfl) ?_
  refine lv_aload_n hx hb dL_law_636 rfl (lv_at hl 3 rfl) ?_
  refine lv_iload_n hx hb dL_law_637 rfl (lv_at hl 0 rfl) ?_
  refine lv_iconst (v := 1) hx hb dL_law_638 (by decide) ?_
  refine lv_iadd hx hb dL_law_639 ?_
  refine ld_s (j := i + 1) C hX hbl hS hL (by omega) (nI_add i 1) dL_law_640 ?_
  refine lv_aload_n hx hb dL_law_641 rfl (lv_at hl 3 rfl) ?_
  refine lv_iload_n hx hb dL_law_642 rfl (lv_at hl 0 rfl) ?_
  refine lv_iconst (v := 2) hx hb dL_law_643 (by decide) ?_
  refine lv_iadd hx hb dL_law_644 ?_
  refine ld_s (j := i + 2) C hX hbl hS hL (by omega) (nI_add i 2) dL_law_645 ?_
  refine cw_pi (ad := ae) (b := 100) (n := 21) (M := R) (M' := R2) (ws := pool cy ad 0 82 M2) (j := ae 100) (As := [.int (xs (i + 1)), .int (xs (i + 2))]) (rest := [.int r]) C hP hD hS (c_X6_run e2) (recv_pool (b := 100) (n := 21) hK hP ⟨by decide, by decide⟩ (ent_6 rfl) (ci := 6) rfl) (gV wd_1099 wd_1100 wd_1101 wd_75 wd_1102) evL_X6_run ⟨rfl, rfl⟩ ⟨(Nat.le_of_ble_eq_true rfl), (Nat.le_of_ble_eq_true rfl)⟩ hl.1 rfl (Nat.le_of_ble_eq_true rfl) dL_law_646 hc (fun H locs hP hD hS => ?_)
  refine lv_icmp_eq (tgt := 1560) hx hb dL_law_649 (by decide) (fun _ => ?_) (fun z => absurd rfl z)
  exact kk M2 R2 H locs h2 (hP.pm List.perm_append_comm) (hD.pm List.perm_append_comm) hS

set_option maxHeartbeats 4000000 in
set_option maxRecDepth 100000 in
theorem lc_14 (C : CW p s m #[Value.ref b] meth c cL_law 4 RL D cy zz (fun q => s.heap.size ≤ q)) (hX : va_X b L xs s s.heap) (hbl : b < s.heap.size) (hL : L ≤ 3584) {i : Nat} (hi : i + 7 ≤ L) {ad ae : Nat → Nat} {M R : Mem} (h : Sim M R) (hc : cells ≤ room_1.cells ∧ slots ≤ room_1.slots) {H : Heap} {locs : List Loc} {ls : Array Slot} (hP : va_P D vwCl (pool cy ad 0 82 M ++ pool cy ae 100 21 R) H) (hD : va_D (fun q => s.heap.size ≤ q) (pool cy ad 0 82 M ++ pool cy ae 100 21 R)) (hS : va_S (fun q => s.heap.size ≤ q) s.heap H locs) (hl : lv_has ls 4 [(3, .int (nI i)), (2, .ref (ae 100)), (1, .ref (ad 0)), (0, .ref b)])
    (kk : ∀ (M R : Mem) (H : Heap) (locs : List Loc), Sim M R → va_P D vwCl (pool cy ad 0 82 M ++ pool cy ae 100 21 R) H → va_D (fun q => s.heap.size ≤ q) (pool cy ad 0 82 M ++ pool cy ae 100 21 R) → va_S (fun q => s.heap.size ≤ q) s.heap H locs → W p l e room_1 s m #[Value.ref b] below meth c H locs cells slots Q (F0 m 1560 ls [])) : W p l e room_1 s m #[Value.ref b] below meth c H locs cells slots Q (F0 m 654 ls []) := by
  obtain ⟨hx, hb, hml, hown, hts, hlk, hK, hN2, hA, hX2⟩ := id C
  obtain ⟨r, M2, R2, e1, e2, h2⟩ := st_track (N := 300) (by decide) (xs (i + 1)) (xs (i + 2)) h
  refine lv_aload_n hx hb dL_law_654 rfl (lv_at hl 2 rfl) ?_
  refine lv_aload_n hx hb dL_law_655 rfl (lv_at hl 3 rfl) ?_
  refine lv_iload_n hx hb dL_law_656 rfl (lv_at hl 0 rfl) ?_
  refine lv_iconst (v := 1) hx hb dL_law_657 (by decide) ?_
  refine lv_iadd hx hb dL_law_658 ?_
  refine ld_s (j := i + 1) C hX hbl hS hL (by omega) (nI_add i 1) dL_law_659 ?_
  refine lv_aload_n hx hb dL_law_660 rfl (lv_at hl 3 rfl) ?_
  refine lv_iload_n hx hb dL_law_661 rfl (lv_at hl 0 rfl) ?_
  refine lv_iconst (v := 2) hx hb dL_law_662 (by decide) ?_
  refine lv_iadd hx hb dL_law_663 ?_
  refine ld_s (j := i + 2) C hX hbl hS hL (by omega) (nI_add i 2) dL_law_664 ?_
  refine cw_pl (ad := ad) (b := 0) (n := 82) (M := M) (M' := M2) (ws := pool cy ae 100 21 R) (j := ad 0) (As := [.int (xs (i + 1)), .int (xs (i + 2))]) (rest := []) C hP hD hS (c_X5_track e1) (recv_pool (b := 0) (n := 82) hK hP ⟨by decide, by decide⟩ (ent_5 rfl) (ci := 5) rfl) (gV wd_639 wd_640 wd_641 wd_64 wd_642) evL_X5_track ⟨rfl, rfl⟩ ⟨(Nat.le_of_ble_eq_true rfl), (Nat.le_of_ble_eq_true rfl)⟩ hl.1 rfl (Nat.le_of_ble_eq_true rfl) dL_law_665 hc (fun H locs hP hD hS => ?_)
  replace hP : va_P D vwCl (pool cy ae 100 21 R ++ pool cy ad 0 82 M2) H := hP.pm List.perm_append_comm
  replace hD : va_D (fun q => s.heap.size ≤ q) (pool cy ae 100 21 R ++ pool cy ad 0 82 M2) := hD.pm List.perm_append_comm
  refine lv_aload_n hx hb dL_law_668 rfl (lv_at hl 1 rfl) ?_
  refine lv_aload_n hx hb dL_law_669 rfl (lv_at hl 3 rfl) ?_
  refine lv_iload_n hx hb dL_law_670 rfl (lv_at hl 0 rfl) ?_
  refine lv_iconst (v := 1) hx hb dL_law_671 (by decide) ?_
  refine lv_iadd hx hb dL_law_672 ?_
  refine ld_s (j := i + 1) C hX hbl hS hL (by omega) (nI_add i 1) dL_law_673 ?_
  refine lv_aload_n hx hb dL_law_674 rfl (lv_at hl 3 rfl) ?_
  refine lv_iload_n hx hb dL_law_675 rfl (lv_at hl 0 rfl) ?_
  refine lv_iconst (v := 2) hx hb dL_law_676 (by decide) ?_
  refine lv_iadd hx hb dL_law_677 ?_
  refine ld_s (j := i + 2) C hX hbl hS hL (by omega) (nI_add i 2) dL_law_678 ?_
  refine cw_pl (ad := ae) (b := 100) (n := 21) (M := R) (M' := R2) (ws := pool cy ad 0 82 M2) (j := ae 100) (As := [.int (xs (i + 1)), .int (xs (i + 2))]) (rest := [.long r]) C hP hD hS (c_X6_track e2) (recv_pool (b := 100) (n := 21) hK hP ⟨by decide, by decide⟩ (ent_6 rfl) (ci := 6) rfl) (gV wd_1128 wd_1129 wd_1130 wd_75 wd_1131) evL_X6_track ⟨rfl, rfl⟩ ⟨(Nat.le_of_ble_eq_true rfl), (Nat.le_of_ble_eq_true rfl)⟩ hl.1 rfl (Nat.le_of_ble_eq_true rfl) dL_law_679 hc (fun H locs hP hD hS => ?_)
  refine W.lcmp hx hb dL_law_682 ?_
  rw [lg_cmp_rf]
  refine lv_if_eq (tgt := 1560) hx hb dL_law_683 (by decide) (fun _ => ?_) (fun z => absurd rfl z)
  exact kk M2 R2 H locs h2 (hP.pm List.perm_append_comm) (hD.pm List.perm_append_comm) hS

set_option maxHeartbeats 4000000 in
set_option maxRecDepth 100000 in
theorem lc_15 (C : CW p s m #[Value.ref b] meth c cL_law 4 RL D cy zz (fun q => s.heap.size ≤ q)) (hX : va_X b L xs s s.heap) (hbl : b < s.heap.size) (hL : L ≤ 3584) {i : Nat} (hi : i + 7 ≤ L) {ad ae : Nat → Nat} {M R : Mem} (h : Sim M R) (hc : cells ≤ room_1.cells ∧ slots ≤ room_1.slots) {H : Heap} {locs : List Loc} {ls : Array Slot} (hP : va_P D vwCl (pool cy ad 0 82 M ++ pool cy ae 100 21 R) H) (hD : va_D (fun q => s.heap.size ≤ q) (pool cy ad 0 82 M ++ pool cy ae 100 21 R)) (hS : va_S (fun q => s.heap.size ≤ q) s.heap H locs) (hl : lv_has ls 4 [(3, .int (nI i)), (2, .ref (ae 100)), (1, .ref (ad 0)), (0, .ref b)])
    (kk : ∀ (M R : Mem) (H : Heap) (locs : List Loc), Sim M R → va_P D vwCl (pool cy ad 0 82 M ++ pool cy ae 100 21 R) H → va_D (fun q => s.heap.size ≤ q) (pool cy ad 0 82 M ++ pool cy ae 100 21 R) → va_S (fun q => s.heap.size ≤ q) s.heap H locs → W p l e room_1 s m #[Value.ref b] below meth c H locs cells slots Q (F0 m 1560 ls [])) : W p l e room_1 s m #[Value.ref b] below meth c H locs cells slots Q (F0 m 688 ls []) := by
  obtain ⟨hx, hb, hml, hown, hts, hlk, hK, hN2, hA, hX2⟩ := id C
  obtain ⟨r, M2, R2, e1, e2, h2⟩ := st_comes (N := 300) (by decide) (xs (i + 1)) (xs (i + 2)) h
  refine lv_aload_n hx hb dL_law_688 rfl (lv_at hl 2 rfl) ?_
  refine lv_aload_n hx hb dL_law_689 rfl (lv_at hl 3 rfl) ?_
  refine lv_iload_n hx hb dL_law_690 rfl (lv_at hl 0 rfl) ?_
  refine lv_iconst (v := 1) hx hb dL_law_691 (by decide) ?_
  refine lv_iadd hx hb dL_law_692 ?_
  refine ld_s (j := i + 1) C hX hbl hS hL (by omega) (nI_add i 1) dL_law_693 ?_
  refine lv_aload_n hx hb dL_law_694 rfl (lv_at hl 3 rfl) ?_
  refine lv_iload_n hx hb dL_law_695 rfl (lv_at hl 0 rfl) ?_
  refine lv_iconst (v := 2) hx hb dL_law_696 (by decide) ?_
  refine lv_iadd hx hb dL_law_697 ?_
  refine ld_s (j := i + 2) C hX hbl hS hL (by omega) (nI_add i 2) dL_law_698 ?_
  refine cw_pi (ad := ad) (b := 0) (n := 82) (M := M) (M' := M2) (ws := pool cy ae 100 21 R) (j := ad 0) (As := [.int (xs (i + 1)), .int (xs (i + 2))]) (rest := []) C hP hD hS (c_X5_comes e1) (recv_pool (b := 0) (n := 82) hK hP ⟨by decide, by decide⟩ (ent_5 rfl) (ci := 5) rfl) (gV wd_658 wd_659 wd_660 wd_64 wd_661) evL_X5_comes ⟨rfl, rfl⟩ ⟨(Nat.le_of_ble_eq_true rfl), (Nat.le_of_ble_eq_true rfl)⟩ hl.1 rfl (Nat.le_of_ble_eq_true rfl) dL_law_699 hc (fun H locs hP hD hS => ?_)
  replace hP : va_P D vwCl (pool cy ae 100 21 R ++ pool cy ad 0 82 M2) H := hP.pm List.perm_append_comm
  replace hD : va_D (fun q => s.heap.size ≤ q) (pool cy ae 100 21 R ++ pool cy ad 0 82 M2) := hD.pm List.perm_append_comm
  refine lv_aload_n hx hb dL_law_702 rfl (lv_at hl 1 rfl) ?_
  refine lv_aload_n hx hb dL_law_703 rfl (lv_at hl 3 rfl) ?_
  refine lv_iload_n hx hb dL_law_704 rfl (lv_at hl 0 rfl) ?_
  refine lv_iconst (v := 1) hx hb dL_law_705 (by decide) ?_
  refine lv_iadd hx hb dL_law_706 ?_
  refine ld_s (j := i + 1) C hX hbl hS hL (by omega) (nI_add i 1) dL_law_707 ?_
  refine lv_aload_n hx hb dL_law_708 rfl (lv_at hl 3 rfl) ?_
  refine lv_iload_n hx hb dL_law_709 rfl (lv_at hl 0 rfl) ?_
  refine lv_iconst (v := 2) hx hb dL_law_710 (by decide) ?_
  refine lv_iadd hx hb dL_law_711 ?_
  refine ld_s (j := i + 2) C hX hbl hS hL (by omega) (nI_add i 2) dL_law_712 ?_
  refine cw_pi (ad := ae) (b := 100) (n := 21) (M := R) (M' := R2) (ws := pool cy ad 0 82 M2) (j := ae 100) (As := [.int (xs (i + 1)), .int (xs (i + 2))]) (rest := [.int r]) C hP hD hS (c_X6_comes e2) (recv_pool (b := 100) (n := 21) hK hP ⟨by decide, by decide⟩ (ent_6 rfl) (ci := 6) rfl) (gV wd_1137 wd_1138 wd_1139 wd_75 wd_1140) evL_X6_comes ⟨rfl, rfl⟩ ⟨(Nat.le_of_ble_eq_true rfl), (Nat.le_of_ble_eq_true rfl)⟩ hl.1 rfl (Nat.le_of_ble_eq_true rfl) dL_law_713 hc (fun H locs hP hD hS => ?_)
  refine lv_icmp_eq (tgt := 1560) hx hb dL_law_716 (by decide) (fun _ => ?_) (fun z => absurd rfl z)
  exact kk M2 R2 H locs h2 (hP.pm List.perm_append_comm) (hD.pm List.perm_append_comm) hS

set_option maxHeartbeats 4000000 in
set_option maxRecDepth 100000 in
theorem lc_16 (C : CW p s m #[Value.ref b] meth c cL_law 4 RL D cy zz (fun q => s.heap.size ≤ q)) (hX : va_X b L xs s s.heap) (hbl : b < s.heap.size) (hL : L ≤ 3584) {i : Nat} (hi : i + 7 ≤ L) {ad ae : Nat → Nat} {M R : Mem} (h : Sim M R) (hc : cells ≤ room_1.cells ∧ slots ≤ room_1.slots) {H : Heap} {locs : List Loc} {ls : Array Slot} (hP : va_P D vwCl (pool cy ad 0 82 M ++ pool cy ae 100 21 R) H) (hD : va_D (fun q => s.heap.size ≤ q) (pool cy ad 0 82 M ++ pool cy ae 100 21 R)) (hS : va_S (fun q => s.heap.size ≤ q) s.heap H locs) (hl : lv_has ls 4 [(3, .int (nI i)), (2, .ref (ae 100)), (1, .ref (ad 0)), (0, .ref b)])
    (kk : ∀ (M R : Mem) (H : Heap) (locs : List Loc), Sim M R → va_P D vwCl (pool cy ad 0 82 M ++ pool cy ae 100 21 R) H → va_D (fun q => s.heap.size ≤ q) (pool cy ad 0 82 M ++ pool cy ae 100 21 R) → va_S (fun q => s.heap.size ≤ q) s.heap H locs → W p l e room_1 s m #[Value.ref b] below meth c H locs cells slots Q (F0 m 1560 ls [])) : W p l e room_1 s m #[Value.ref b] below meth c H locs cells slots Q (F0 m 721 ls []) := by
  obtain ⟨hx, hb, hml, hown, hts, hlk, hK, hN2, hA, hX2⟩ := id C
  obtain ⟨r, M2, R2, e1, e2, h2⟩ := st_meet (N := 300) (by decide) (xs (i + 1)) (xs (i + 2)) h
  refine lv_aload_n hx hb dL_law_721 rfl (lv_at hl 2 rfl) ?_
  refine lv_aload_n hx hb dL_law_722 rfl (lv_at hl 3 rfl) ?_
  refine lv_iload_n hx hb dL_law_723 rfl (lv_at hl 0 rfl) ?_
  refine lv_iconst (v := 1) hx hb dL_law_724 (by decide) ?_
  refine lv_iadd hx hb dL_law_725 ?_
  refine ld_s (j := i + 1) C hX hbl hS hL (by omega) (nI_add i 1) dL_law_726 ?_
  refine lv_aload_n hx hb dL_law_727 rfl (lv_at hl 3 rfl) ?_
  refine lv_iload_n hx hb dL_law_728 rfl (lv_at hl 0 rfl) ?_
  refine lv_iconst (v := 2) hx hb dL_law_729 (by decide) ?_
  refine lv_iadd hx hb dL_law_730 ?_
  refine ld_s (j := i + 2) C hX hbl hS hL (by omega) (nI_add i 2) dL_law_731 ?_
  refine cw_pi (ad := ad) (b := 0) (n := 82) (M := M) (M' := M2) (ws := pool cy ae 100 21 R) (j := ad 0) (As := [.int (xs (i + 1)), .int (xs (i + 2))]) (rest := []) C hP hD hS (c_X5_meet e1) (recv_pool (b := 0) (n := 82) hK hP ⟨by decide, by decide⟩ (ent_5 rfl) (ci := 5) rfl) (gV wd_662 wd_663 wd_664 wd_64 wd_665) evL_X5_meet ⟨rfl, rfl⟩ ⟨(Nat.le_of_ble_eq_true rfl), (Nat.le_of_ble_eq_true rfl)⟩ hl.1 rfl (Nat.le_of_ble_eq_true rfl) dL_law_732 hc (fun H locs hP hD hS => ?_)
  replace hP : va_P D vwCl (pool cy ae 100 21 R ++ pool cy ad 0 82 M2) H := hP.pm List.perm_append_comm
  replace hD : va_D (fun q => s.heap.size ≤ q) (pool cy ae 100 21 R ++ pool cy ad 0 82 M2) := hD.pm List.perm_append_comm
  refine lv_aload_n hx hb dL_law_735 rfl (lv_at hl 1 rfl) ?_
  refine lv_aload_n hx hb dL_law_736 rfl (lv_at hl 3 rfl) ?_
  refine lv_iload_n hx hb dL_law_737 rfl (lv_at hl 0 rfl) ?_
  refine lv_iconst (v := 1) hx hb dL_law_738 (by decide) ?_
  refine lv_iadd hx hb dL_law_739 ?_
  refine ld_s (j := i + 1) C hX hbl hS hL (by omega) (nI_add i 1) dL_law_740 ?_
  refine lv_aload_n hx hb dL_law_741 rfl (lv_at hl 3 rfl) ?_
  refine lv_iload_n hx hb dL_law_742 rfl (lv_at hl 0 rfl) ?_
  refine lv_iconst (v := 2) hx hb dL_law_743 (by decide) ?_
  refine lv_iadd hx hb dL_law_744 ?_
  refine ld_s (j := i + 2) C hX hbl hS hL (by omega) (nI_add i 2) dL_law_745 ?_
  refine cw_pi (ad := ae) (b := 100) (n := 21) (M := R) (M' := R2) (ws := pool cy ad 0 82 M2) (j := ae 100) (As := [.int (xs (i + 1)), .int (xs (i + 2))]) (rest := [.int r]) C hP hD hS (c_X6_meet e2) (recv_pool (b := 100) (n := 21) hK hP ⟨by decide, by decide⟩ (ent_6 rfl) (ci := 6) rfl) (gV wd_1141 wd_1142 wd_1143 wd_75 wd_1144) evL_X6_meet ⟨rfl, rfl⟩ ⟨(Nat.le_of_ble_eq_true rfl), (Nat.le_of_ble_eq_true rfl)⟩ hl.1 rfl (Nat.le_of_ble_eq_true rfl) dL_law_746 hc (fun H locs hP hD hS => ?_)
  refine lv_icmp_eq (tgt := 1560) hx hb dL_law_749 (by decide) (fun _ => ?_) (fun z => absurd rfl z)
  exact kk M2 R2 H locs h2 (hP.pm List.perm_append_comm) (hD.pm List.perm_append_comm) hS

set_option maxHeartbeats 4000000 in
set_option maxRecDepth 100000 in
theorem lc_17 (C : CW p s m #[Value.ref b] meth c cL_law 4 RL D cy zz (fun q => s.heap.size ≤ q)) (hX : va_X b L xs s s.heap) (hbl : b < s.heap.size) (hL : L ≤ 3584) {i : Nat} (hi : i + 7 ≤ L) {ad ae : Nat → Nat} {M R : Mem} (h : Sim M R) (hc : cells ≤ room_1.cells ∧ slots ≤ room_1.slots) {H : Heap} {locs : List Loc} {ls : Array Slot} (hP : va_P D vwCl (pool cy ad 0 82 M ++ pool cy ae 100 21 R) H) (hD : va_D (fun q => s.heap.size ≤ q) (pool cy ad 0 82 M ++ pool cy ae 100 21 R)) (hS : va_S (fun q => s.heap.size ≤ q) s.heap H locs) (hl : lv_has ls 4 [(3, .int (nI i)), (2, .ref (ae 100)), (1, .ref (ad 0)), (0, .ref b)])
    (kk : ∀ (M R : Mem) (H : Heap) (locs : List Loc), Sim M R → va_P D vwCl (pool cy ad 0 82 M ++ pool cy ae 100 21 R) H → va_D (fun q => s.heap.size ≤ q) (pool cy ad 0 82 M ++ pool cy ae 100 21 R) → va_S (fun q => s.heap.size ≤ q) s.heap H locs → W p l e room_1 s m #[Value.ref b] below meth c H locs cells slots Q (F0 m 1560 ls [])) : W p l e room_1 s m #[Value.ref b] below meth c H locs cells slots Q (F0 m 754 ls []) := by
  obtain ⟨hx, hb, hml, hown, hts, hlk, hK, hN2, hA, hX2⟩ := id C
  obtain ⟨r, e1, e2⟩ := st_alike (N := 300) (by decide) (xs (i + 1)) (xs (i + 2)) (xs (i + 3)) h
  refine lv_aload_n hx hb dL_law_754 rfl (lv_at hl 2 rfl) ?_
  refine lv_aload_n hx hb dL_law_755 rfl (lv_at hl 3 rfl) ?_
  refine lv_iload_n hx hb dL_law_756 rfl (lv_at hl 0 rfl) ?_
  refine lv_iconst (v := 1) hx hb dL_law_757 (by decide) ?_
  refine lv_iadd hx hb dL_law_758 ?_
  refine ld_s (j := i + 1) C hX hbl hS hL (by omega) (nI_add i 1) dL_law_759 ?_
  refine lv_aload_n hx hb dL_law_760 rfl (lv_at hl 3 rfl) ?_
  refine lv_iload_n hx hb dL_law_761 rfl (lv_at hl 0 rfl) ?_
  refine lv_iconst (v := 2) hx hb dL_law_762 (by decide) ?_
  refine lv_iadd hx hb dL_law_763 ?_
  refine ld_s (j := i + 2) C hX hbl hS hL (by omega) (nI_add i 2) dL_law_764 ?_
  refine lv_aload_n hx hb dL_law_765 rfl (lv_at hl 3 rfl) ?_
  refine lv_iload_n hx hb dL_law_766 rfl (lv_at hl 0 rfl) ?_
  refine lv_iconst (v := 3) hx hb dL_law_767 (by decide) ?_
  refine lv_iadd hx hb dL_law_768 ?_
  refine ld_s (j := i + 3) C hX hbl hS hL (by omega) (nI_add i 3) dL_law_769 ?_
  refine cw_pi (ad := ad) (b := 0) (n := 82) (M := M) (M' := M) (ws := pool cy ae 100 21 R) (j := ad 0) (As := [.int (xs (i + 1)), .int (xs (i + 2)), .int (xs (i + 3))]) (rest := []) C hP hD hS (c_X5_alike e1) (recv_pool (b := 0) (n := 82) hK hP ⟨by decide, by decide⟩ (ent_5 rfl) (ci := 5) rfl) (gV wd_666 wd_667 wd_668 wd_64 wd_669) evL_X5_alike ⟨rfl, rfl⟩ ⟨(Nat.le_of_ble_eq_true rfl), (Nat.le_of_ble_eq_true rfl)⟩ hl.1 rfl (Nat.le_of_ble_eq_true rfl) dL_law_770 hc (fun H locs hP hD hS => ?_)
  replace hP : va_P D vwCl (pool cy ae 100 21 R ++ pool cy ad 0 82 M) H := hP.pm List.perm_append_comm
  replace hD : va_D (fun q => s.heap.size ≤ q) (pool cy ae 100 21 R ++ pool cy ad 0 82 M) := hD.pm List.perm_append_comm
  refine lv_aload_n hx hb dL_law_773 rfl (lv_at hl 1 rfl) ?_
  refine lv_aload_n hx hb dL_law_774 rfl (lv_at hl 3 rfl) ?_
  refine lv_iload_n hx hb dL_law_775 rfl (lv_at hl 0 rfl) ?_
  refine lv_iconst (v := 1) hx hb dL_law_776 (by decide) ?_
  refine lv_iadd hx hb dL_law_777 ?_
  refine ld_s (j := i + 1) C hX hbl hS hL (by omega) (nI_add i 1) dL_law_778 ?_
  refine lv_aload_n hx hb dL_law_779 rfl (lv_at hl 3 rfl) ?_
  refine lv_iload_n hx hb dL_law_780 rfl (lv_at hl 0 rfl) ?_
  refine lv_iconst (v := 2) hx hb dL_law_781 (by decide) ?_
  refine lv_iadd hx hb dL_law_782 ?_
  refine ld_s (j := i + 2) C hX hbl hS hL (by omega) (nI_add i 2) dL_law_783 ?_
  refine lv_aload_n hx hb dL_law_784 rfl (lv_at hl 3 rfl) ?_
  refine lv_iload_n hx hb dL_law_785 rfl (lv_at hl 0 rfl) ?_
  refine lv_iconst (v := 3) hx hb dL_law_786 (by decide) ?_
  refine lv_iadd hx hb dL_law_787 ?_
  refine ld_s (j := i + 3) C hX hbl hS hL (by omega) (nI_add i 3) dL_law_788 ?_
  refine cw_pi (ad := ae) (b := 100) (n := 21) (M := R) (M' := R) (ws := pool cy ad 0 82 M) (j := ae 100) (As := [.int (xs (i + 1)), .int (xs (i + 2)), .int (xs (i + 3))]) (rest := [.int r]) C hP hD hS (c_X6_alike e2) (recv_pool (b := 100) (n := 21) hK hP ⟨by decide, by decide⟩ (ent_6 rfl) (ci := 6) rfl) (gV wd_1145 wd_1146 wd_1147 wd_75 wd_1148) evL_X6_alike ⟨rfl, rfl⟩ ⟨(Nat.le_of_ble_eq_true rfl), (Nat.le_of_ble_eq_true rfl)⟩ hl.1 rfl (Nat.le_of_ble_eq_true rfl) dL_law_789 hc (fun H locs hP hD hS => ?_)
  refine lv_icmp_eq (tgt := 1560) hx hb dL_law_792 (by decide) (fun _ => ?_) (fun z => absurd rfl z)
  exact kk M R H locs h (hP.pm List.perm_append_comm) (hD.pm List.perm_append_comm) hS

set_option maxHeartbeats 4000000 in
set_option maxRecDepth 100000 in
theorem lc_18 (C : CW p s m #[Value.ref b] meth c cL_law 4 RL D cy zz (fun q => s.heap.size ≤ q)) (hX : va_X b L xs s s.heap) (hbl : b < s.heap.size) (hL : L ≤ 3584) {i : Nat} (hi : i + 7 ≤ L) {ad ae : Nat → Nat} {M R : Mem} (h : Sim M R) (hc : cells ≤ room_1.cells ∧ slots ≤ room_1.slots) {H : Heap} {locs : List Loc} {ls : Array Slot} (hP : va_P D vwCl (pool cy ad 0 82 M ++ pool cy ae 100 21 R) H) (hD : va_D (fun q => s.heap.size ≤ q) (pool cy ad 0 82 M ++ pool cy ae 100 21 R)) (hS : va_S (fun q => s.heap.size ≤ q) s.heap H locs) (hl : lv_has ls 4 [(3, .int (nI i)), (2, .ref (ae 100)), (1, .ref (ad 0)), (0, .ref b)])
    (kk : ∀ (M R : Mem) (H : Heap) (locs : List Loc), Sim M R → va_P D vwCl (pool cy ad 0 82 M ++ pool cy ae 100 21 R) H → va_D (fun q => s.heap.size ≤ q) (pool cy ad 0 82 M ++ pool cy ae 100 21 R) → va_S (fun q => s.heap.size ≤ q) s.heap H locs → W p l e room_1 s m #[Value.ref b] below meth c H locs cells slots Q (F0 m 1560 ls [])) : W p l e room_1 s m #[Value.ref b] below meth c H locs cells slots Q (F0 m 797 ls []) := by
  obtain ⟨hx, hb, hml, hown, hts, hlk, hK, hN2, hA, hX2⟩ := id C
  obtain ⟨r, M2, R2, e1, e2, h2⟩ := st_anew (N := 300) (by decide) (xs (i + 1)) (xs (i + 2)) (xs (i + 3)) (xs (i + 4)) h
  refine lv_aload_n hx hb dL_law_797 rfl (lv_at hl 2 rfl) ?_
  refine lv_aload_n hx hb dL_law_798 rfl (lv_at hl 3 rfl) ?_
  refine lv_iload_n hx hb dL_law_799 rfl (lv_at hl 0 rfl) ?_
  refine lv_iconst (v := 1) hx hb dL_law_800 (by decide) ?_
  refine lv_iadd hx hb dL_law_801 ?_
  refine ld_s (j := i + 1) C hX hbl hS hL (by omega) (nI_add i 1) dL_law_802 ?_
  refine lv_aload_n hx hb dL_law_803 rfl (lv_at hl 3 rfl) ?_
  refine lv_iload_n hx hb dL_law_804 rfl (lv_at hl 0 rfl) ?_
  refine lv_iconst (v := 2) hx hb dL_law_805 (by decide) ?_
  refine lv_iadd hx hb dL_law_806 ?_
  refine ld_s (j := i + 2) C hX hbl hS hL (by omega) (nI_add i 2) dL_law_807 ?_
  refine lv_aload_n hx hb dL_law_808 rfl (lv_at hl 3 rfl) ?_
  refine lv_iload_n hx hb dL_law_809 rfl (lv_at hl 0 rfl) ?_
  refine lv_iconst (v := 3) hx hb dL_law_810 (by decide) ?_
  refine lv_iadd hx hb dL_law_811 ?_
  refine ld_s (j := i + 3) C hX hbl hS hL (by omega) (nI_add i 3) dL_law_812 ?_
  refine lv_aload_n hx hb dL_law_813 rfl (lv_at hl 3 rfl) ?_
  refine lv_iload_n hx hb dL_law_814 rfl (lv_at hl 0 rfl) ?_
  refine lv_iconst (v := 4) hx hb dL_law_815 (by decide) ?_
  refine lv_iadd hx hb dL_law_816 ?_
  refine ld_s (j := i + 4) C hX hbl hS hL (by omega) (nI_add i 4) dL_law_817 ?_
  refine cw_pi (ad := ad) (b := 0) (n := 82) (M := M) (M' := M2) (ws := pool cy ae 100 21 R) (j := ad 0) (As := [.int (xs (i + 1)), .int (xs (i + 2)), .int (xs (i + 3)), .int (xs (i + 4))]) (rest := []) C hP hD hS (c_X5_anew e1) (recv_pool (b := 0) (n := 82) hK hP ⟨by decide, by decide⟩ (ent_5 rfl) (ci := 5) rfl) (gV wd_683 wd_684 wd_685 wd_64 wd_686) evL_X5_anew ⟨rfl, rfl⟩ ⟨(Nat.le_of_ble_eq_true rfl), (Nat.le_of_ble_eq_true rfl)⟩ hl.1 rfl (Nat.le_of_ble_eq_true rfl) dL_law_818 hc (fun H locs hP hD hS => ?_)
  replace hP : va_P D vwCl (pool cy ae 100 21 R ++ pool cy ad 0 82 M2) H := hP.pm List.perm_append_comm
  replace hD : va_D (fun q => s.heap.size ≤ q) (pool cy ae 100 21 R ++ pool cy ad 0 82 M2) := hD.pm List.perm_append_comm
  refine lv_aload_n hx hb dL_law_821 rfl (lv_at hl 1 rfl) ?_
  refine lv_aload_n hx hb dL_law_822 rfl (lv_at hl 3 rfl) ?_
  refine lv_iload_n hx hb dL_law_823 rfl (lv_at hl 0 rfl) ?_
  refine lv_iconst (v := 1) hx hb dL_law_824 (by decide) ?_
  refine lv_iadd hx hb dL_law_825 ?_
  refine ld_s (j := i + 1) C hX hbl hS hL (by omega) (nI_add i 1) dL_law_826 ?_
  refine lv_aload_n hx hb dL_law_827 rfl (lv_at hl 3 rfl) ?_
  refine lv_iload_n hx hb dL_law_828 rfl (lv_at hl 0 rfl) ?_
  refine lv_iconst (v := 2) hx hb dL_law_829 (by decide) ?_
  refine lv_iadd hx hb dL_law_830 ?_
  refine ld_s (j := i + 2) C hX hbl hS hL (by omega) (nI_add i 2) dL_law_831 ?_
  refine lv_aload_n hx hb dL_law_832 rfl (lv_at hl 3 rfl) ?_
  refine lv_iload_n hx hb dL_law_833 rfl (lv_at hl 0 rfl) ?_
  refine lv_iconst (v := 3) hx hb dL_law_834 (by decide) ?_
  refine lv_iadd hx hb dL_law_835 ?_
  refine ld_s (j := i + 3) C hX hbl hS hL (by omega) (nI_add i 3) dL_law_836 ?_
  refine lv_aload_n hx hb dL_law_837 rfl (lv_at hl 3 rfl) ?_
  refine lv_iload_n hx hb dL_law_838 rfl (lv_at hl 0 rfl) ?_
  refine lv_iconst (v := 4) hx hb dL_law_839 (by decide) ?_
  refine lv_iadd hx hb dL_law_840 ?_
  refine ld_s (j := i + 4) C hX hbl hS hL (by omega) (nI_add i 4) dL_law_841 ?_
  refine cw_pi (ad := ae) (b := 100) (n := 21) (M := R) (M' := R2) (ws := pool cy ad 0 82 M2) (j := ae 100) (As := [.int (xs (i + 1)), .int (xs (i + 2)), .int (xs (i + 3)), .int (xs (i + 4))]) (rest := [.int r]) C hP hD hS (c_X6_anew e2) (recv_pool (b := 100) (n := 21) hK hP ⟨by decide, by decide⟩ (ent_6 rfl) (ci := 6) rfl) (gV wd_1161 wd_1162 wd_1163 wd_75 wd_1164) evL_X6_anew ⟨rfl, rfl⟩ ⟨(Nat.le_of_ble_eq_true rfl), (Nat.le_of_ble_eq_true rfl)⟩ hl.1 rfl (Nat.le_of_ble_eq_true rfl) dL_law_842 hc (fun H locs hP hD hS => ?_)
  refine lv_icmp_eq (tgt := 1560) hx hb dL_law_845 (by decide) (fun _ => ?_) (fun z => absurd rfl z)
  exact kk M2 R2 H locs h2 (hP.pm List.perm_append_comm) (hD.pm List.perm_append_comm) hS

set_option maxHeartbeats 4000000 in
set_option maxRecDepth 100000 in
theorem lc_19 (C : CW p s m #[Value.ref b] meth c cL_law 4 RL D cy zz (fun q => s.heap.size ≤ q)) (hX : va_X b L xs s s.heap) (hbl : b < s.heap.size) (hL : L ≤ 3584) {i : Nat} (hi : i + 7 ≤ L) {ad ae : Nat → Nat} {M R : Mem} (h : Sim M R) (hc : cells ≤ room_1.cells ∧ slots ≤ room_1.slots) {H : Heap} {locs : List Loc} {ls : Array Slot} (hP : va_P D vwCl (pool cy ad 0 82 M ++ pool cy ae 100 21 R) H) (hD : va_D (fun q => s.heap.size ≤ q) (pool cy ad 0 82 M ++ pool cy ae 100 21 R)) (hS : va_S (fun q => s.heap.size ≤ q) s.heap H locs) (hl : lv_has ls 4 [(3, .int (nI i)), (2, .ref (ae 100)), (1, .ref (ad 0)), (0, .ref b)])
    (kk : ∀ (M R : Mem) (H : Heap) (locs : List Loc), Sim M R → va_P D vwCl (pool cy ad 0 82 M ++ pool cy ae 100 21 R) H → va_D (fun q => s.heap.size ≤ q) (pool cy ad 0 82 M ++ pool cy ae 100 21 R) → va_S (fun q => s.heap.size ≤ q) s.heap H locs → W p l e room_1 s m #[Value.ref b] below meth c H locs cells slots Q (F0 m 1560 ls [])) : W p l e room_1 s m #[Value.ref b] below meth c H locs cells slots Q (F0 m 850 ls []) := by
  obtain ⟨hx, hb, hml, hown, hts, hlk, hK, hN2, hA, hX2⟩ := id C
  obtain ⟨r, M2, R2, e1, e2, h2⟩ := st_drain (N := 300) (by decide) (xs (i + 1)) (xs (i + 2)) h
  refine lv_aload_n hx hb dL_law_850 rfl (lv_at hl 2 rfl) ?_
  refine lv_aload_n hx hb dL_law_851 rfl (lv_at hl 3 rfl) ?_
  refine lv_iload_n hx hb dL_law_852 rfl (lv_at hl 0 rfl) ?_
  refine lv_iconst (v := 1) hx hb dL_law_853 (by decide) ?_
  refine lv_iadd hx hb dL_law_854 ?_
  refine ld_s (j := i + 1) C hX hbl hS hL (by omega) (nI_add i 1) dL_law_855 ?_
  refine lv_aload_n hx hb dL_law_856 rfl (lv_at hl 3 rfl) ?_
  refine lv_iload_n hx hb dL_law_857 rfl (lv_at hl 0 rfl) ?_
  refine lv_iconst (v := 2) hx hb dL_law_858 (by decide) ?_
  refine lv_iadd hx hb dL_law_859 ?_
  refine ld_s (j := i + 2) C hX hbl hS hL (by omega) (nI_add i 2) dL_law_860 ?_
  refine cw_pi (ad := ad) (b := 0) (n := 82) (M := M) (M' := M2) (ws := pool cy ae 100 21 R) (j := ad 0) (As := [.int (xs (i + 1)), .int (xs (i + 2))]) (rest := []) C hP hD hS (c_X5_drain e1) (recv_pool (b := 0) (n := 82) hK hP ⟨by decide, by decide⟩ (ent_5 rfl) (ci := 5) rfl) (gV wd_697 wd_698 wd_699 wd_64 wd_700) evL_X5_drain ⟨rfl, rfl⟩ ⟨(Nat.le_of_ble_eq_true rfl), (Nat.le_of_ble_eq_true rfl)⟩ hl.1 rfl (Nat.le_of_ble_eq_true rfl) dL_law_861 hc (fun H locs hP hD hS => ?_)
  replace hP : va_P D vwCl (pool cy ae 100 21 R ++ pool cy ad 0 82 M2) H := hP.pm List.perm_append_comm
  replace hD : va_D (fun q => s.heap.size ≤ q) (pool cy ae 100 21 R ++ pool cy ad 0 82 M2) := hD.pm List.perm_append_comm
  refine lv_aload_n hx hb dL_law_864 rfl (lv_at hl 1 rfl) ?_
  refine lv_aload_n hx hb dL_law_865 rfl (lv_at hl 3 rfl) ?_
  refine lv_iload_n hx hb dL_law_866 rfl (lv_at hl 0 rfl) ?_
  refine lv_iconst (v := 1) hx hb dL_law_867 (by decide) ?_
  refine lv_iadd hx hb dL_law_868 ?_
  refine ld_s (j := i + 1) C hX hbl hS hL (by omega) (nI_add i 1) dL_law_869 ?_
  refine lv_aload_n hx hb dL_law_870 rfl (lv_at hl 3 rfl) ?_
  refine lv_iload_n hx hb dL_law_871 rfl (lv_at hl 0 rfl) ?_
  refine lv_iconst (v := 2) hx hb dL_law_872 (by decide) ?_
  refine lv_iadd hx hb dL_law_873 ?_
  refine ld_s (j := i + 2) C hX hbl hS hL (by omega) (nI_add i 2) dL_law_874 ?_
  refine cw_pi (ad := ae) (b := 100) (n := 21) (M := R) (M' := R2) (ws := pool cy ad 0 82 M2) (j := ae 100) (As := [.int (xs (i + 1)), .int (xs (i + 2))]) (rest := [.int r]) C hP hD hS (c_X6_drain e2) (recv_pool (b := 100) (n := 21) hK hP ⟨by decide, by decide⟩ (ent_6 rfl) (ci := 6) rfl) (gV wd_1172 wd_1173 wd_1174 wd_75 wd_1175) evL_X6_drain ⟨rfl, rfl⟩ ⟨(Nat.le_of_ble_eq_true rfl), (Nat.le_of_ble_eq_true rfl)⟩ hl.1 rfl (Nat.le_of_ble_eq_true rfl) dL_law_875 hc (fun H locs hP hD hS => ?_)
  refine lv_icmp_eq (tgt := 1560) hx hb dL_law_878 (by decide) (fun _ => ?_) (fun z => absurd rfl z)
  exact kk M2 R2 H locs h2 (hP.pm List.perm_append_comm) (hD.pm List.perm_append_comm) hS

set_option maxHeartbeats 4000000 in
set_option maxRecDepth 100000 in
theorem lc_20 (C : CW p s m #[Value.ref b] meth c cL_law 4 RL D cy zz (fun q => s.heap.size ≤ q)) (hX : va_X b L xs s s.heap) (hbl : b < s.heap.size) (hL : L ≤ 3584) {i : Nat} (hi : i + 7 ≤ L) {ad ae : Nat → Nat} {M R : Mem} (h : Sim M R) (hc : cells ≤ room_1.cells ∧ slots ≤ room_1.slots) {H : Heap} {locs : List Loc} {ls : Array Slot} (hP : va_P D vwCl (pool cy ad 0 82 M ++ pool cy ae 100 21 R) H) (hD : va_D (fun q => s.heap.size ≤ q) (pool cy ad 0 82 M ++ pool cy ae 100 21 R)) (hS : va_S (fun q => s.heap.size ≤ q) s.heap H locs) (hl : lv_has ls 4 [(3, .int (nI i)), (2, .ref (ae 100)), (1, .ref (ad 0)), (0, .ref b)])
    (kk : ∀ (M R : Mem) (H : Heap) (locs : List Loc), Sim M R → va_P D vwCl (pool cy ad 0 82 M ++ pool cy ae 100 21 R) H → va_D (fun q => s.heap.size ≤ q) (pool cy ad 0 82 M ++ pool cy ae 100 21 R) → va_S (fun q => s.heap.size ≤ q) s.heap H locs → W p l e room_1 s m #[Value.ref b] below meth c H locs cells slots Q (F0 m 1560 ls [])) : W p l e room_1 s m #[Value.ref b] below meth c H locs cells slots Q (F0 m 883 ls []) := by
  obtain ⟨hx, hb, hml, hown, hts, hlk, hK, hN2, hA, hX2⟩ := id C
  obtain ⟨r, M2, R2, e1, e2, h2⟩ := st_turn (N := 300) (by decide) (xs (i + 1)) (xs (i + 2)) (xs (i + 3)) h
  refine lv_aload_n hx hb dL_law_883 rfl (lv_at hl 2 rfl) ?_
  refine lv_aload_n hx hb dL_law_884 rfl (lv_at hl 3 rfl) ?_
  refine lv_iload_n hx hb dL_law_885 rfl (lv_at hl 0 rfl) ?_
  refine lv_iconst (v := 1) hx hb dL_law_886 (by decide) ?_
  refine lv_iadd hx hb dL_law_887 ?_
  refine ld_s (j := i + 1) C hX hbl hS hL (by omega) (nI_add i 1) dL_law_888 ?_
  refine lv_aload_n hx hb dL_law_889 rfl (lv_at hl 3 rfl) ?_
  refine lv_iload_n hx hb dL_law_890 rfl (lv_at hl 0 rfl) ?_
  refine lv_iconst (v := 2) hx hb dL_law_891 (by decide) ?_
  refine lv_iadd hx hb dL_law_892 ?_
  refine ld_s (j := i + 2) C hX hbl hS hL (by omega) (nI_add i 2) dL_law_893 ?_
  refine lv_aload_n hx hb dL_law_894 rfl (lv_at hl 3 rfl) ?_
  refine lv_iload_n hx hb dL_law_895 rfl (lv_at hl 0 rfl) ?_
  refine lv_iconst (v := 3) hx hb dL_law_896 (by decide) ?_
  refine lv_iadd hx hb dL_law_897 ?_
  refine ld_s (j := i + 3) C hX hbl hS hL (by omega) (nI_add i 3) dL_law_898 ?_
  refine cw_pi (ad := ad) (b := 0) (n := 82) (M := M) (M' := M2) (ws := pool cy ae 100 21 R) (j := ad 0) (As := [.int (xs (i + 1)), .int (xs (i + 2)), .int (xs (i + 3))]) (rest := []) C hP hD hS (c_X5_turn e1) (recv_pool (b := 0) (n := 82) hK hP ⟨by decide, by decide⟩ (ent_5 rfl) (ci := 5) rfl) (gV wd_702 wd_703 wd_704 wd_64 wd_705) evL_X5_turn ⟨rfl, rfl⟩ ⟨(Nat.le_of_ble_eq_true rfl), (Nat.le_of_ble_eq_true rfl)⟩ hl.1 rfl (Nat.le_of_ble_eq_true rfl) dL_law_899 hc (fun H locs hP hD hS => ?_)
  replace hP : va_P D vwCl (pool cy ae 100 21 R ++ pool cy ad 0 82 M2) H := hP.pm List.perm_append_comm
  replace hD : va_D (fun q => s.heap.size ≤ q) (pool cy ae 100 21 R ++ pool cy ad 0 82 M2) := hD.pm List.perm_append_comm
  refine lv_aload_n hx hb dL_law_902 rfl (lv_at hl 1 rfl) ?_
  refine lv_aload_n hx hb dL_law_903 rfl (lv_at hl 3 rfl) ?_
  refine lv_iload_n hx hb dL_law_904 rfl (lv_at hl 0 rfl) ?_
  refine lv_iconst (v := 1) hx hb dL_law_905 (by decide) ?_
  refine lv_iadd hx hb dL_law_906 ?_
  refine ld_s (j := i + 1) C hX hbl hS hL (by omega) (nI_add i 1) dL_law_907 ?_
  refine lv_aload_n hx hb dL_law_908 rfl (lv_at hl 3 rfl) ?_
  refine lv_iload_n hx hb dL_law_909 rfl (lv_at hl 0 rfl) ?_
  refine lv_iconst (v := 2) hx hb dL_law_910 (by decide) ?_
  refine lv_iadd hx hb dL_law_911 ?_
  refine ld_s (j := i + 2) C hX hbl hS hL (by omega) (nI_add i 2) dL_law_912 ?_
  refine lv_aload_n hx hb dL_law_913 rfl (lv_at hl 3 rfl) ?_
  refine lv_iload_n hx hb dL_law_914 rfl (lv_at hl 0 rfl) ?_
  refine lv_iconst (v := 3) hx hb dL_law_915 (by decide) ?_
  refine lv_iadd hx hb dL_law_916 ?_
  refine ld_s (j := i + 3) C hX hbl hS hL (by omega) (nI_add i 3) dL_law_917 ?_
  refine cw_pi (ad := ae) (b := 100) (n := 21) (M := R) (M' := R2) (ws := pool cy ad 0 82 M2) (j := ae 100) (As := [.int (xs (i + 1)), .int (xs (i + 2)), .int (xs (i + 3))]) (rest := [.int r]) C hP hD hS (c_X6_turn e2) (recv_pool (b := 100) (n := 21) hK hP ⟨by decide, by decide⟩ (ent_6 rfl) (ci := 6) rfl) (gV wd_1180 wd_1181 wd_1182 wd_75 wd_1183) evL_X6_turn ⟨rfl, rfl⟩ ⟨(Nat.le_of_ble_eq_true rfl), (Nat.le_of_ble_eq_true rfl)⟩ hl.1 rfl (Nat.le_of_ble_eq_true rfl) dL_law_918 hc (fun H locs hP hD hS => ?_)
  refine lv_icmp_eq (tgt := 1560) hx hb dL_law_921 (by decide) (fun _ => ?_) (fun z => absurd rfl z)
  exact kk M2 R2 H locs h2 (hP.pm List.perm_append_comm) (hD.pm List.perm_append_comm) hS

set_option maxHeartbeats 4000000 in
set_option maxRecDepth 100000 in
theorem lc_21 (C : CW p s m #[Value.ref b] meth c cL_law 4 RL D cy zz (fun q => s.heap.size ≤ q)) (hX : va_X b L xs s s.heap) (hbl : b < s.heap.size) (hL : L ≤ 3584) {i : Nat} (hi : i + 7 ≤ L) {ad ae : Nat → Nat} {M R : Mem} (h : Sim M R) (hc : cells ≤ room_1.cells ∧ slots ≤ room_1.slots) {H : Heap} {locs : List Loc} {ls : Array Slot} (hP : va_P D vwCl (pool cy ad 0 82 M ++ pool cy ae 100 21 R) H) (hD : va_D (fun q => s.heap.size ≤ q) (pool cy ad 0 82 M ++ pool cy ae 100 21 R)) (hS : va_S (fun q => s.heap.size ≤ q) s.heap H locs) (hl : lv_has ls 4 [(3, .int (nI i)), (2, .ref (ae 100)), (1, .ref (ad 0)), (0, .ref b)])
    (kk : ∀ (M R : Mem) (H : Heap) (locs : List Loc), Sim M R → va_P D vwCl (pool cy ad 0 82 M ++ pool cy ae 100 21 R) H → va_D (fun q => s.heap.size ≤ q) (pool cy ad 0 82 M ++ pool cy ae 100 21 R) → va_S (fun q => s.heap.size ≤ q) s.heap H locs → W p l e room_1 s m #[Value.ref b] below meth c H locs cells slots Q (F0 m 1560 ls [])) : W p l e room_1 s m #[Value.ref b] below meth c H locs cells slots Q (F0 m 926 ls []) := by
  obtain ⟨hx, hb, hml, hown, hts, hlk, hK, hN2, hA, hX2⟩ := id C
  obtain ⟨r, M2, R2, e1, e2, h2⟩ := st_share (N := 300) (by decide) (xs (i + 1)) (xs (i + 2)) h
  refine lv_aload_n hx hb dL_law_926 rfl (lv_at hl 2 rfl) ?_
  refine lv_aload_n hx hb dL_law_927 rfl (lv_at hl 3 rfl) ?_
  refine lv_iload_n hx hb dL_law_928 rfl (lv_at hl 0 rfl) ?_
  refine lv_iconst (v := 1) hx hb dL_law_929 (by decide) ?_
  refine lv_iadd hx hb dL_law_930 ?_
  refine ld_s (j := i + 1) C hX hbl hS hL (by omega) (nI_add i 1) dL_law_931 ?_
  refine lv_aload_n hx hb dL_law_932 rfl (lv_at hl 3 rfl) ?_
  refine lv_iload_n hx hb dL_law_933 rfl (lv_at hl 0 rfl) ?_
  refine lv_iconst (v := 2) hx hb dL_law_934 (by decide) ?_
  refine lv_iadd hx hb dL_law_935 ?_
  refine ld_s (j := i + 2) C hX hbl hS hL (by omega) (nI_add i 2) dL_law_936 ?_
  refine cw_pl (ad := ad) (b := 0) (n := 82) (M := M) (M' := M2) (ws := pool cy ae 100 21 R) (j := ad 0) (As := [.int (xs (i + 1)), .int (xs (i + 2))]) (rest := []) C hP hD hS (c_X5_share e1) (recv_pool (b := 0) (n := 82) hK hP ⟨by decide, by decide⟩ (ent_5 rfl) (ci := 5) rfl) (gV wd_706 wd_707 wd_708 wd_64 wd_709) evL_X5_share ⟨rfl, rfl⟩ ⟨(Nat.le_of_ble_eq_true rfl), (Nat.le_of_ble_eq_true rfl)⟩ hl.1 rfl (Nat.le_of_ble_eq_true rfl) dL_law_937 hc (fun H locs hP hD hS => ?_)
  replace hP : va_P D vwCl (pool cy ae 100 21 R ++ pool cy ad 0 82 M2) H := hP.pm List.perm_append_comm
  replace hD : va_D (fun q => s.heap.size ≤ q) (pool cy ae 100 21 R ++ pool cy ad 0 82 M2) := hD.pm List.perm_append_comm
  refine lv_aload_n hx hb dL_law_940 rfl (lv_at hl 1 rfl) ?_
  refine lv_aload_n hx hb dL_law_941 rfl (lv_at hl 3 rfl) ?_
  refine lv_iload_n hx hb dL_law_942 rfl (lv_at hl 0 rfl) ?_
  refine lv_iconst (v := 1) hx hb dL_law_943 (by decide) ?_
  refine lv_iadd hx hb dL_law_944 ?_
  refine ld_s (j := i + 1) C hX hbl hS hL (by omega) (nI_add i 1) dL_law_945 ?_
  refine lv_aload_n hx hb dL_law_946 rfl (lv_at hl 3 rfl) ?_
  refine lv_iload_n hx hb dL_law_947 rfl (lv_at hl 0 rfl) ?_
  refine lv_iconst (v := 2) hx hb dL_law_948 (by decide) ?_
  refine lv_iadd hx hb dL_law_949 ?_
  refine ld_s (j := i + 2) C hX hbl hS hL (by omega) (nI_add i 2) dL_law_950 ?_
  refine cw_pl (ad := ae) (b := 100) (n := 21) (M := R) (M' := R2) (ws := pool cy ad 0 82 M2) (j := ae 100) (As := [.int (xs (i + 1)), .int (xs (i + 2))]) (rest := [.long r]) C hP hD hS (c_X6_share e2) (recv_pool (b := 100) (n := 21) hK hP ⟨by decide, by decide⟩ (ent_6 rfl) (ci := 6) rfl) (gV wd_1184 wd_1185 wd_1186 wd_75 wd_1187) evL_X6_share ⟨rfl, rfl⟩ ⟨(Nat.le_of_ble_eq_true rfl), (Nat.le_of_ble_eq_true rfl)⟩ hl.1 rfl (Nat.le_of_ble_eq_true rfl) dL_law_951 hc (fun H locs hP hD hS => ?_)
  refine W.lcmp hx hb dL_law_954 ?_
  rw [lg_cmp_rf]
  refine lv_if_eq (tgt := 1560) hx hb dL_law_955 (by decide) (fun _ => ?_) (fun z => absurd rfl z)
  exact kk M2 R2 H locs h2 (hP.pm List.perm_append_comm) (hD.pm List.perm_append_comm) hS

set_option maxHeartbeats 4000000 in
set_option maxRecDepth 100000 in
theorem lc_22 (C : CW p s m #[Value.ref b] meth c cL_law 4 RL D cy zz (fun q => s.heap.size ≤ q)) (hX : va_X b L xs s s.heap) (hbl : b < s.heap.size) (hL : L ≤ 3584) {i : Nat} (hi : i + 7 ≤ L) {ad ae : Nat → Nat} {M R : Mem} (h : Sim M R) (hc : cells ≤ room_1.cells ∧ slots ≤ room_1.slots) {H : Heap} {locs : List Loc} {ls : Array Slot} (hP : va_P D vwCl (pool cy ad 0 82 M ++ pool cy ae 100 21 R) H) (hD : va_D (fun q => s.heap.size ≤ q) (pool cy ad 0 82 M ++ pool cy ae 100 21 R)) (hS : va_S (fun q => s.heap.size ≤ q) s.heap H locs) (hl : lv_has ls 4 [(3, .int (nI i)), (2, .ref (ae 100)), (1, .ref (ad 0)), (0, .ref b)])
    (kk : ∀ (M R : Mem) (H : Heap) (locs : List Loc), Sim M R → va_P D vwCl (pool cy ad 0 82 M ++ pool cy ae 100 21 R) H → va_D (fun q => s.heap.size ≤ q) (pool cy ad 0 82 M ++ pool cy ae 100 21 R) → va_S (fun q => s.heap.size ≤ q) s.heap H locs → W p l e room_1 s m #[Value.ref b] below meth c H locs cells slots Q (F0 m 1560 ls [])) : W p l e room_1 s m #[Value.ref b] below meth c H locs cells slots Q (F0 m 960 ls []) := by
  obtain ⟨hx, hb, hml, hown, hts, hlk, hK, hN2, hA, hX2⟩ := id C
  obtain ⟨r, M2, R2, e1, e2, h2⟩ := st_judge (N := 300) (by decide) (xs (i + 1)) (xs (i + 2)) h
  refine lv_aload_n hx hb dL_law_960 rfl (lv_at hl 2 rfl) ?_
  refine lv_aload_n hx hb dL_law_961 rfl (lv_at hl 3 rfl) ?_
  refine lv_iload_n hx hb dL_law_962 rfl (lv_at hl 0 rfl) ?_
  refine lv_iconst (v := 1) hx hb dL_law_963 (by decide) ?_
  refine lv_iadd hx hb dL_law_964 ?_
  refine ld_s (j := i + 1) C hX hbl hS hL (by omega) (nI_add i 1) dL_law_965 ?_
  refine lv_aload_n hx hb dL_law_966 rfl (lv_at hl 3 rfl) ?_
  refine lv_iload_n hx hb dL_law_967 rfl (lv_at hl 0 rfl) ?_
  refine lv_iconst (v := 2) hx hb dL_law_968 (by decide) ?_
  refine lv_iadd hx hb dL_law_969 ?_
  refine ld_s (j := i + 2) C hX hbl hS hL (by omega) (nI_add i 2) dL_law_970 ?_
  refine cw_pi (ad := ad) (b := 0) (n := 82) (M := M) (M' := M2) (ws := pool cy ae 100 21 R) (j := ad 0) (As := [.int (xs (i + 1)), .int (xs (i + 2))]) (rest := []) C hP hD hS (c_X5_judge e1) (recv_pool (b := 0) (n := 82) hK hP ⟨by decide, by decide⟩ (ent_5 rfl) (ci := 5) rfl) (gV wd_717 wd_718 wd_719 wd_64 wd_720) evL_X5_judge ⟨rfl, rfl⟩ ⟨(Nat.le_of_ble_eq_true rfl), (Nat.le_of_ble_eq_true rfl)⟩ hl.1 rfl (Nat.le_of_ble_eq_true rfl) dL_law_971 hc (fun H locs hP hD hS => ?_)
  replace hP : va_P D vwCl (pool cy ae 100 21 R ++ pool cy ad 0 82 M2) H := hP.pm List.perm_append_comm
  replace hD : va_D (fun q => s.heap.size ≤ q) (pool cy ae 100 21 R ++ pool cy ad 0 82 M2) := hD.pm List.perm_append_comm
  refine lv_aload_n hx hb dL_law_974 rfl (lv_at hl 1 rfl) ?_
  refine lv_aload_n hx hb dL_law_975 rfl (lv_at hl 3 rfl) ?_
  refine lv_iload_n hx hb dL_law_976 rfl (lv_at hl 0 rfl) ?_
  refine lv_iconst (v := 1) hx hb dL_law_977 (by decide) ?_
  refine lv_iadd hx hb dL_law_978 ?_
  refine ld_s (j := i + 1) C hX hbl hS hL (by omega) (nI_add i 1) dL_law_979 ?_
  refine lv_aload_n hx hb dL_law_980 rfl (lv_at hl 3 rfl) ?_
  refine lv_iload_n hx hb dL_law_981 rfl (lv_at hl 0 rfl) ?_
  refine lv_iconst (v := 2) hx hb dL_law_982 (by decide) ?_
  refine lv_iadd hx hb dL_law_983 ?_
  refine ld_s (j := i + 2) C hX hbl hS hL (by omega) (nI_add i 2) dL_law_984 ?_
  refine cw_pi (ad := ae) (b := 100) (n := 21) (M := R) (M' := R2) (ws := pool cy ad 0 82 M2) (j := ae 100) (As := [.int (xs (i + 1)), .int (xs (i + 2))]) (rest := [.int r]) C hP hD hS (c_X6_judge e2) (recv_pool (b := 100) (n := 21) hK hP ⟨by decide, by decide⟩ (ent_6 rfl) (ci := 6) rfl) (gV wd_1192 wd_1193 wd_1194 wd_75 wd_1195) evL_X6_judge ⟨rfl, rfl⟩ ⟨(Nat.le_of_ble_eq_true rfl), (Nat.le_of_ble_eq_true rfl)⟩ hl.1 rfl (Nat.le_of_ble_eq_true rfl) dL_law_985 hc (fun H locs hP hD hS => ?_)
  refine lv_icmp_eq (tgt := 1560) hx hb dL_law_988 (by decide) (fun _ => ?_) (fun z => absurd rfl z)
  exact kk M2 R2 H locs h2 (hP.pm List.perm_append_comm) (hD.pm List.perm_append_comm) hS

set_option maxHeartbeats 4000000 in
set_option maxRecDepth 100000 in
theorem lc_23 (C : CW p s m #[Value.ref b] meth c cL_law 4 RL D cy zz (fun q => s.heap.size ≤ q)) (hX : va_X b L xs s s.heap) (hbl : b < s.heap.size) (hL : L ≤ 3584) {i : Nat} (hi : i + 7 ≤ L) {ad ae : Nat → Nat} {M R : Mem} (h : Sim M R) (hc : cells ≤ room_1.cells ∧ slots ≤ room_1.slots) {H : Heap} {locs : List Loc} {ls : Array Slot} (hP : va_P D vwCl (pool cy ad 0 82 M ++ pool cy ae 100 21 R) H) (hD : va_D (fun q => s.heap.size ≤ q) (pool cy ad 0 82 M ++ pool cy ae 100 21 R)) (hS : va_S (fun q => s.heap.size ≤ q) s.heap H locs) (hl : lv_has ls 4 [(3, .int (nI i)), (2, .ref (ae 100)), (1, .ref (ad 0)), (0, .ref b)])
    (kk : ∀ (M R : Mem) (H : Heap) (locs : List Loc), Sim M R → va_P D vwCl (pool cy ad 0 82 M ++ pool cy ae 100 21 R) H → va_D (fun q => s.heap.size ≤ q) (pool cy ad 0 82 M ++ pool cy ae 100 21 R) → va_S (fun q => s.heap.size ≤ q) s.heap H locs → W p l e room_1 s m #[Value.ref b] below meth c H locs cells slots Q (F0 m 1560 ls [])) : W p l e room_1 s m #[Value.ref b] below meth c H locs cells slots Q (F0 m 993 ls []) := by
  obtain ⟨hx, hb, hml, hown, hts, hlk, hK, hN2, hA, hX2⟩ := id C
  obtain ⟨r, M2, R2, e1, e2, h2⟩ := st_kinds (N := 300) (by decide) (xs (i + 1)) (xs (i + 2)) (xs (i + 3)) h
  refine lv_aload_n hx hb dL_law_993 rfl (lv_at hl 2 rfl) ?_
  refine lv_aload_n hx hb dL_law_994 rfl (lv_at hl 3 rfl) ?_
  refine lv_iload_n hx hb dL_law_995 rfl (lv_at hl 0 rfl) ?_
  refine lv_iconst (v := 1) hx hb dL_law_996 (by decide) ?_
  refine lv_iadd hx hb dL_law_997 ?_
  refine ld_s (j := i + 1) C hX hbl hS hL (by omega) (nI_add i 1) dL_law_998 ?_
  refine lv_aload_n hx hb dL_law_999 rfl (lv_at hl 3 rfl) ?_
  refine lv_iload_n hx hb dL_law_1000 rfl (lv_at hl 0 rfl) ?_
  refine lv_iconst (v := 2) hx hb dL_law_1001 (by decide) ?_
  refine lv_iadd hx hb dL_law_1002 ?_
  refine ld_s (j := i + 2) C hX hbl hS hL (by omega) (nI_add i 2) dL_law_1003 ?_
  refine lv_aload_n hx hb dL_law_1004 rfl (lv_at hl 3 rfl) ?_
  refine lv_iload_n hx hb dL_law_1005 rfl (lv_at hl 0 rfl) ?_
  refine lv_iconst (v := 3) hx hb dL_law_1006 (by decide) ?_
  refine lv_iadd hx hb dL_law_1007 ?_
  refine ld_s (j := i + 3) C hX hbl hS hL (by omega) (nI_add i 3) dL_law_1008 ?_
  refine cw_pi (ad := ad) (b := 0) (n := 82) (M := M) (M' := M2) (ws := pool cy ae 100 21 R) (j := ad 0) (As := [.int (xs (i + 1)), .int (xs (i + 2)), .int (xs (i + 3))]) (rest := []) C hP hD hS (c_X5_kinds e1) (recv_pool (b := 0) (n := 82) hK hP ⟨by decide, by decide⟩ (ent_5 rfl) (ci := 5) rfl) (gV wd_734 wd_735 wd_736 wd_64 wd_737) evL_X5_kinds ⟨rfl, rfl⟩ ⟨(Nat.le_of_ble_eq_true rfl), (Nat.le_of_ble_eq_true rfl)⟩ hl.1 rfl (Nat.le_of_ble_eq_true rfl) dL_law_1009 hc (fun H locs hP hD hS => ?_)
  replace hP : va_P D vwCl (pool cy ae 100 21 R ++ pool cy ad 0 82 M2) H := hP.pm List.perm_append_comm
  replace hD : va_D (fun q => s.heap.size ≤ q) (pool cy ae 100 21 R ++ pool cy ad 0 82 M2) := hD.pm List.perm_append_comm
  refine lv_aload_n hx hb dL_law_1012 rfl (lv_at hl 1 rfl) ?_
  refine lv_aload_n hx hb dL_law_1013 rfl (lv_at hl 3 rfl) ?_
  refine lv_iload_n hx hb dL_law_1014 rfl (lv_at hl 0 rfl) ?_
  refine lv_iconst (v := 1) hx hb dL_law_1015 (by decide) ?_
  refine lv_iadd hx hb dL_law_1016 ?_
  refine ld_s (j := i + 1) C hX hbl hS hL (by omega) (nI_add i 1) dL_law_1017 ?_
  refine lv_aload_n hx hb dL_law_1018 rfl (lv_at hl 3 rfl) ?_
  refine lv_iload_n hx hb dL_law_1019 rfl (lv_at hl 0 rfl) ?_
  refine lv_iconst (v := 2) hx hb dL_law_1020 (by decide) ?_
  refine lv_iadd hx hb dL_law_1021 ?_
  refine ld_s (j := i + 2) C hX hbl hS hL (by omega) (nI_add i 2) dL_law_1022 ?_
  refine lv_aload_n hx hb dL_law_1023 rfl (lv_at hl 3 rfl) ?_
  refine lv_iload_n hx hb dL_law_1024 rfl (lv_at hl 0 rfl) ?_
  refine lv_iconst (v := 3) hx hb dL_law_1025 (by decide) ?_
  refine lv_iadd hx hb dL_law_1026 ?_
  refine ld_s (j := i + 3) C hX hbl hS hL (by omega) (nI_add i 3) dL_law_1027 ?_
  refine cw_pi (ad := ae) (b := 100) (n := 21) (M := R) (M' := R2) (ws := pool cy ad 0 82 M2) (j := ae 100) (As := [.int (xs (i + 1)), .int (xs (i + 2)), .int (xs (i + 3))]) (rest := [.int r]) C hP hD hS (c_X6_kinds e2) (recv_pool (b := 100) (n := 21) hK hP ⟨by decide, by decide⟩ (ent_6 rfl) (ci := 6) rfl) (gV wd_1208 wd_1209 wd_1210 wd_75 wd_1211) evL_X6_kinds ⟨rfl, rfl⟩ ⟨(Nat.le_of_ble_eq_true rfl), (Nat.le_of_ble_eq_true rfl)⟩ hl.1 rfl (Nat.le_of_ble_eq_true rfl) dL_law_1028 hc (fun H locs hP hD hS => ?_)
  refine lv_icmp_eq (tgt := 1560) hx hb dL_law_1031 (by decide) (fun _ => ?_) (fun z => absurd rfl z)
  exact kk M2 R2 H locs h2 (hP.pm List.perm_append_comm) (hD.pm List.perm_append_comm) hS

set_option maxHeartbeats 4000000 in
set_option maxRecDepth 100000 in
theorem lc_24 (C : CW p s m #[Value.ref b] meth c cL_law 4 RL D cy zz (fun q => s.heap.size ≤ q)) (hX : va_X b L xs s s.heap) (hbl : b < s.heap.size) (hL : L ≤ 3584) {i : Nat} (hi : i + 7 ≤ L) {ad ae : Nat → Nat} {M R : Mem} (h : Sim M R) (hc : cells ≤ room_1.cells ∧ slots ≤ room_1.slots) {H : Heap} {locs : List Loc} {ls : Array Slot} (hP : va_P D vwCl (pool cy ad 0 82 M ++ pool cy ae 100 21 R) H) (hD : va_D (fun q => s.heap.size ≤ q) (pool cy ad 0 82 M ++ pool cy ae 100 21 R)) (hS : va_S (fun q => s.heap.size ≤ q) s.heap H locs) (hl : lv_has ls 4 [(3, .int (nI i)), (2, .ref (ae 100)), (1, .ref (ad 0)), (0, .ref b)])
    (kk : ∀ (M R : Mem) (H : Heap) (locs : List Loc), Sim M R → va_P D vwCl (pool cy ad 0 82 M ++ pool cy ae 100 21 R) H → va_D (fun q => s.heap.size ≤ q) (pool cy ad 0 82 M ++ pool cy ae 100 21 R) → va_S (fun q => s.heap.size ≤ q) s.heap H locs → W p l e room_1 s m #[Value.ref b] below meth c H locs cells slots Q (F0 m 1560 ls [])) : W p l e room_1 s m #[Value.ref b] below meth c H locs cells slots Q (F0 m 1036 ls []) := by
  obtain ⟨hx, hb, hml, hown, hts, hlk, hK, hN2, hA, hX2⟩ := id C
  obtain ⟨r, M2, R2, e1, e2, h2⟩ := st_begins (N := 300) (by decide) (xs (i + 1)) (xs (i + 2)) h
  refine lv_aload_n hx hb dL_law_1036 rfl (lv_at hl 2 rfl) ?_
  refine lv_aload_n hx hb dL_law_1037 rfl (lv_at hl 3 rfl) ?_
  refine lv_iload_n hx hb dL_law_1038 rfl (lv_at hl 0 rfl) ?_
  refine lv_iconst (v := 1) hx hb dL_law_1039 (by decide) ?_
  refine lv_iadd hx hb dL_law_1040 ?_
  refine ld_s (j := i + 1) C hX hbl hS hL (by omega) (nI_add i 1) dL_law_1041 ?_
  refine lv_aload_n hx hb dL_law_1042 rfl (lv_at hl 3 rfl) ?_
  refine lv_iload_n hx hb dL_law_1043 rfl (lv_at hl 0 rfl) ?_
  refine lv_iconst (v := 2) hx hb dL_law_1044 (by decide) ?_
  refine lv_iadd hx hb dL_law_1045 ?_
  refine ld_s (j := i + 2) C hX hbl hS hL (by omega) (nI_add i 2) dL_law_1046 ?_
  refine cw_pl (ad := ad) (b := 0) (n := 82) (M := M) (M' := M2) (ws := pool cy ae 100 21 R) (j := ad 0) (As := [.int (xs (i + 1)), .int (xs (i + 2))]) (rest := []) C hP hD hS (c_X5_begins e1) (recv_pool (b := 0) (n := 82) hK hP ⟨by decide, by decide⟩ (ent_5 rfl) (ci := 5) rfl) (gV wd_738 wd_739 wd_740 wd_64 wd_741) evL_X5_begins ⟨rfl, rfl⟩ ⟨(Nat.le_of_ble_eq_true rfl), (Nat.le_of_ble_eq_true rfl)⟩ hl.1 rfl (Nat.le_of_ble_eq_true rfl) dL_law_1047 hc (fun H locs hP hD hS => ?_)
  replace hP : va_P D vwCl (pool cy ae 100 21 R ++ pool cy ad 0 82 M2) H := hP.pm List.perm_append_comm
  replace hD : va_D (fun q => s.heap.size ≤ q) (pool cy ae 100 21 R ++ pool cy ad 0 82 M2) := hD.pm List.perm_append_comm
  refine lv_aload_n hx hb dL_law_1050 rfl (lv_at hl 1 rfl) ?_
  refine lv_aload_n hx hb dL_law_1051 rfl (lv_at hl 3 rfl) ?_
  refine lv_iload_n hx hb dL_law_1052 rfl (lv_at hl 0 rfl) ?_
  refine lv_iconst (v := 1) hx hb dL_law_1053 (by decide) ?_
  refine lv_iadd hx hb dL_law_1054 ?_
  refine ld_s (j := i + 1) C hX hbl hS hL (by omega) (nI_add i 1) dL_law_1055 ?_
  refine lv_aload_n hx hb dL_law_1056 rfl (lv_at hl 3 rfl) ?_
  refine lv_iload_n hx hb dL_law_1057 rfl (lv_at hl 0 rfl) ?_
  refine lv_iconst (v := 2) hx hb dL_law_1058 (by decide) ?_
  refine lv_iadd hx hb dL_law_1059 ?_
  refine ld_s (j := i + 2) C hX hbl hS hL (by omega) (nI_add i 2) dL_law_1060 ?_
  refine cw_pl (ad := ae) (b := 100) (n := 21) (M := R) (M' := R2) (ws := pool cy ad 0 82 M2) (j := ae 100) (As := [.int (xs (i + 1)), .int (xs (i + 2))]) (rest := [.long r]) C hP hD hS (c_X6_begins e2) (recv_pool (b := 100) (n := 21) hK hP ⟨by decide, by decide⟩ (ent_6 rfl) (ci := 6) rfl) (gV wd_1212 wd_1213 wd_1214 wd_75 wd_1215) evL_X6_begins ⟨rfl, rfl⟩ ⟨(Nat.le_of_ble_eq_true rfl), (Nat.le_of_ble_eq_true rfl)⟩ hl.1 rfl (Nat.le_of_ble_eq_true rfl) dL_law_1061 hc (fun H locs hP hD hS => ?_)
  refine W.lcmp hx hb dL_law_1064 ?_
  rw [lg_cmp_rf]
  refine lv_if_eq (tgt := 1560) hx hb dL_law_1065 (by decide) (fun _ => ?_) (fun z => absurd rfl z)
  exact kk M2 R2 H locs h2 (hP.pm List.perm_append_comm) (hD.pm List.perm_append_comm) hS

set_option maxHeartbeats 4000000 in
set_option maxRecDepth 100000 in
theorem lc_25 (C : CW p s m #[Value.ref b] meth c cL_law 4 RL D cy zz (fun q => s.heap.size ≤ q)) (hX : va_X b L xs s s.heap) (hbl : b < s.heap.size) (hL : L ≤ 3584) {i : Nat} (hi : i + 7 ≤ L) {ad ae : Nat → Nat} {M R : Mem} (h : Sim M R) (hc : cells ≤ room_1.cells ∧ slots ≤ room_1.slots) {H : Heap} {locs : List Loc} {ls : Array Slot} (hP : va_P D vwCl (pool cy ad 0 82 M ++ pool cy ae 100 21 R) H) (hD : va_D (fun q => s.heap.size ≤ q) (pool cy ad 0 82 M ++ pool cy ae 100 21 R)) (hS : va_S (fun q => s.heap.size ≤ q) s.heap H locs) (hl : lv_has ls 4 [(3, .int (nI i)), (2, .ref (ae 100)), (1, .ref (ad 0)), (0, .ref b)])
    (kk : ∀ (M R : Mem) (H : Heap) (locs : List Loc), Sim M R → va_P D vwCl (pool cy ad 0 82 M ++ pool cy ae 100 21 R) H → va_D (fun q => s.heap.size ≤ q) (pool cy ad 0 82 M ++ pool cy ae 100 21 R) → va_S (fun q => s.heap.size ≤ q) s.heap H locs → W p l e room_1 s m #[Value.ref b] below meth c H locs cells slots Q (F0 m 1560 ls [])) : W p l e room_1 s m #[Value.ref b] below meth c H locs cells slots Q (F0 m 1070 ls []) := by
  obtain ⟨hx, hb, hml, hown, hts, hlk, hK, hN2, hA, hX2⟩ := id C
  obtain ⟨r, M2, R2, e1, e2, h2⟩ := st_ways (N := 300) (by decide) (xs (i + 1)) (xs (i + 2)) (xs (i + 3)) h
  refine lv_aload_n hx hb dL_law_1070 rfl (lv_at hl 2 rfl) ?_
  refine lv_aload_n hx hb dL_law_1071 rfl (lv_at hl 3 rfl) ?_
  refine lv_iload_n hx hb dL_law_1072 rfl (lv_at hl 0 rfl) ?_
  refine lv_iconst (v := 1) hx hb dL_law_1073 (by decide) ?_
  refine lv_iadd hx hb dL_law_1074 ?_
  refine ld_s (j := i + 1) C hX hbl hS hL (by omega) (nI_add i 1) dL_law_1075 ?_
  refine lv_aload_n hx hb dL_law_1076 rfl (lv_at hl 3 rfl) ?_
  refine lv_iload_n hx hb dL_law_1077 rfl (lv_at hl 0 rfl) ?_
  refine lv_iconst (v := 2) hx hb dL_law_1078 (by decide) ?_
  refine lv_iadd hx hb dL_law_1079 ?_
  refine ld_s (j := i + 2) C hX hbl hS hL (by omega) (nI_add i 2) dL_law_1080 ?_
  refine lv_aload_n hx hb dL_law_1081 rfl (lv_at hl 3 rfl) ?_
  refine lv_iload_n hx hb dL_law_1082 rfl (lv_at hl 0 rfl) ?_
  refine lv_iconst (v := 3) hx hb dL_law_1083 (by decide) ?_
  refine lv_iadd hx hb dL_law_1084 ?_
  refine ld_s (j := i + 3) C hX hbl hS hL (by omega) (nI_add i 3) dL_law_1085 ?_
  refine cw_pi (ad := ad) (b := 0) (n := 82) (M := M) (M' := M2) (ws := pool cy ae 100 21 R) (j := ad 0) (As := [.int (xs (i + 1)), .int (xs (i + 2)), .int (xs (i + 3))]) (rest := []) C hP hD hS (c_X5_ways e1) (recv_pool (b := 0) (n := 82) hK hP ⟨by decide, by decide⟩ (ent_5 rfl) (ci := 5) rfl) (gV wd_746 wd_747 wd_748 wd_64 wd_749) evL_X5_ways ⟨rfl, rfl⟩ ⟨(Nat.le_of_ble_eq_true rfl), (Nat.le_of_ble_eq_true rfl)⟩ hl.1 rfl (Nat.le_of_ble_eq_true rfl) dL_law_1086 hc (fun H locs hP hD hS => ?_)
  replace hP : va_P D vwCl (pool cy ae 100 21 R ++ pool cy ad 0 82 M2) H := hP.pm List.perm_append_comm
  replace hD : va_D (fun q => s.heap.size ≤ q) (pool cy ae 100 21 R ++ pool cy ad 0 82 M2) := hD.pm List.perm_append_comm
  refine lv_aload_n hx hb dL_law_1089 rfl (lv_at hl 1 rfl) ?_
  refine lv_aload_n hx hb dL_law_1090 rfl (lv_at hl 3 rfl) ?_
  refine lv_iload_n hx hb dL_law_1091 rfl (lv_at hl 0 rfl) ?_
  refine lv_iconst (v := 1) hx hb dL_law_1092 (by decide) ?_
  refine lv_iadd hx hb dL_law_1093 ?_
  refine ld_s (j := i + 1) C hX hbl hS hL (by omega) (nI_add i 1) dL_law_1094 ?_
  refine lv_aload_n hx hb dL_law_1095 rfl (lv_at hl 3 rfl) ?_
  refine lv_iload_n hx hb dL_law_1096 rfl (lv_at hl 0 rfl) ?_
  refine lv_iconst (v := 2) hx hb dL_law_1097 (by decide) ?_
  refine lv_iadd hx hb dL_law_1098 ?_
  refine ld_s (j := i + 2) C hX hbl hS hL (by omega) (nI_add i 2) dL_law_1099 ?_
  refine lv_aload_n hx hb dL_law_1100 rfl (lv_at hl 3 rfl) ?_
  refine lv_iload_n hx hb dL_law_1101 rfl (lv_at hl 0 rfl) ?_
  refine lv_iconst (v := 3) hx hb dL_law_1102 (by decide) ?_
  refine lv_iadd hx hb dL_law_1103 ?_
  refine ld_s (j := i + 3) C hX hbl hS hL (by omega) (nI_add i 3) dL_law_1104 ?_
  refine cw_pi (ad := ae) (b := 100) (n := 21) (M := R) (M' := R2) (ws := pool cy ad 0 82 M2) (j := ae 100) (As := [.int (xs (i + 1)), .int (xs (i + 2)), .int (xs (i + 3))]) (rest := [.int r]) C hP hD hS (c_X6_ways e2) (recv_pool (b := 100) (n := 21) hK hP ⟨by decide, by decide⟩ (ent_6 rfl) (ci := 6) rfl) (gV wd_1216 wd_1217 wd_1218 wd_75 wd_1219) evL_X6_ways ⟨rfl, rfl⟩ ⟨(Nat.le_of_ble_eq_true rfl), (Nat.le_of_ble_eq_true rfl)⟩ hl.1 rfl (Nat.le_of_ble_eq_true rfl) dL_law_1105 hc (fun H locs hP hD hS => ?_)
  refine lv_icmp_eq (tgt := 1560) hx hb dL_law_1108 (by decide) (fun _ => ?_) (fun z => absurd rfl z)
  exact kk M2 R2 H locs h2 (hP.pm List.perm_append_comm) (hD.pm List.perm_append_comm) hS

set_option maxHeartbeats 4000000 in
set_option maxRecDepth 100000 in
theorem lc_26 (C : CW p s m #[Value.ref b] meth c cL_law 4 RL D cy zz (fun q => s.heap.size ≤ q)) (hX : va_X b L xs s s.heap) (hbl : b < s.heap.size) (hL : L ≤ 3584) {i : Nat} (hi : i + 7 ≤ L) {ad ae : Nat → Nat} {M R : Mem} (h : Sim M R) (hc : cells ≤ room_1.cells ∧ slots ≤ room_1.slots) {H : Heap} {locs : List Loc} {ls : Array Slot} (hP : va_P D vwCl (pool cy ad 0 82 M ++ pool cy ae 100 21 R) H) (hD : va_D (fun q => s.heap.size ≤ q) (pool cy ad 0 82 M ++ pool cy ae 100 21 R)) (hS : va_S (fun q => s.heap.size ≤ q) s.heap H locs) (hl : lv_has ls 4 [(3, .int (nI i)), (2, .ref (ae 100)), (1, .ref (ad 0)), (0, .ref b)])
    (kk : ∀ (M R : Mem) (H : Heap) (locs : List Loc), Sim M R → va_P D vwCl (pool cy ad 0 82 M ++ pool cy ae 100 21 R) H → va_D (fun q => s.heap.size ≤ q) (pool cy ad 0 82 M ++ pool cy ae 100 21 R) → va_S (fun q => s.heap.size ≤ q) s.heap H locs → W p l e room_1 s m #[Value.ref b] below meth c H locs cells slots Q (F0 m 1560 ls [])) : W p l e room_1 s m #[Value.ref b] below meth c H locs cells slots Q (F0 m 1113 ls []) := by
  obtain ⟨hx, hb, hml, hown, hts, hlk, hK, hN2, hA, hX2⟩ := id C
  obtain ⟨r, M2, R2, e1, e2, h2⟩ := st_whose (N := 300) (by decide) (xs (i + 1)) h
  refine lv_aload_n hx hb dL_law_1113 rfl (lv_at hl 2 rfl) ?_
  refine lv_aload_n hx hb dL_law_1114 rfl (lv_at hl 3 rfl) ?_
  refine lv_iload_n hx hb dL_law_1115 rfl (lv_at hl 0 rfl) ?_
  refine lv_iconst (v := 1) hx hb dL_law_1116 (by decide) ?_
  refine lv_iadd hx hb dL_law_1117 ?_
  refine ld_s (j := i + 1) C hX hbl hS hL (by omega) (nI_add i 1) dL_law_1118 ?_
  refine cw_pi (ad := ad) (b := 0) (n := 82) (M := M) (M' := M2) (ws := pool cy ae 100 21 R) (j := ad 0) (As := [.int (xs (i + 1))]) (rest := []) C hP hD hS (c_X5_whose e1) (recv_pool (b := 0) (n := 82) hK hP ⟨by decide, by decide⟩ (ent_5 rfl) (ci := 5) rfl) (gV wd_750 wd_751 wd_752 wd_64 wd_753) evL_X5_whose ⟨rfl, rfl⟩ ⟨(Nat.le_of_ble_eq_true rfl), (Nat.le_of_ble_eq_true rfl)⟩ hl.1 rfl (Nat.le_of_ble_eq_true rfl) dL_law_1119 hc (fun H locs hP hD hS => ?_)
  replace hP : va_P D vwCl (pool cy ae 100 21 R ++ pool cy ad 0 82 M2) H := hP.pm List.perm_append_comm
  replace hD : va_D (fun q => s.heap.size ≤ q) (pool cy ae 100 21 R ++ pool cy ad 0 82 M2) := hD.pm List.perm_append_comm
  refine lv_aload_n hx hb dL_law_1122 rfl (lv_at hl 1 rfl) ?_
  refine lv_aload_n hx hb dL_law_1123 rfl (lv_at hl 3 rfl) ?_
  refine lv_iload_n hx hb dL_law_1124 rfl (lv_at hl 0 rfl) ?_
  refine lv_iconst (v := 1) hx hb dL_law_1125 (by decide) ?_
  refine lv_iadd hx hb dL_law_1126 ?_
  refine ld_s (j := i + 1) C hX hbl hS hL (by omega) (nI_add i 1) dL_law_1127 ?_
  refine cw_pi (ad := ae) (b := 100) (n := 21) (M := R) (M' := R2) (ws := pool cy ad 0 82 M2) (j := ae 100) (As := [.int (xs (i + 1))]) (rest := [.int r]) C hP hD hS (c_X6_whose e2) (recv_pool (b := 100) (n := 21) hK hP ⟨by decide, by decide⟩ (ent_6 rfl) (ci := 6) rfl) (gV wd_1220 wd_1221 wd_1222 wd_75 wd_1223) evL_X6_whose ⟨rfl, rfl⟩ ⟨(Nat.le_of_ble_eq_true rfl), (Nat.le_of_ble_eq_true rfl)⟩ hl.1 rfl (Nat.le_of_ble_eq_true rfl) dL_law_1128 hc (fun H locs hP hD hS => ?_)
  refine lv_icmp_eq (tgt := 1560) hx hb dL_law_1131 (by decide) (fun _ => ?_) (fun z => absurd rfl z)
  exact kk M2 R2 H locs h2 (hP.pm List.perm_append_comm) (hD.pm List.perm_append_comm) hS

set_option maxHeartbeats 4000000 in
set_option maxRecDepth 100000 in
theorem lc_27 (C : CW p s m #[Value.ref b] meth c cL_law 4 RL D cy zz (fun q => s.heap.size ≤ q)) (hX : va_X b L xs s s.heap) (hbl : b < s.heap.size) (hL : L ≤ 3584) {i : Nat} (hi : i + 7 ≤ L) {ad ae : Nat → Nat} {M R : Mem} (h : Sim M R) (hc : cells ≤ room_1.cells ∧ slots ≤ room_1.slots) {H : Heap} {locs : List Loc} {ls : Array Slot} (hP : va_P D vwCl (pool cy ad 0 82 M ++ pool cy ae 100 21 R) H) (hD : va_D (fun q => s.heap.size ≤ q) (pool cy ad 0 82 M ++ pool cy ae 100 21 R)) (hS : va_S (fun q => s.heap.size ≤ q) s.heap H locs) (hl : lv_has ls 4 [(3, .int (nI i)), (2, .ref (ae 100)), (1, .ref (ad 0)), (0, .ref b)])
    (kk : ∀ (M R : Mem) (H : Heap) (locs : List Loc), Sim M R → va_P D vwCl (pool cy ad 0 82 M ++ pool cy ae 100 21 R) H → va_D (fun q => s.heap.size ≤ q) (pool cy ad 0 82 M ++ pool cy ae 100 21 R) → va_S (fun q => s.heap.size ≤ q) s.heap H locs → W p l e room_1 s m #[Value.ref b] below meth c H locs cells slots Q (F0 m 1560 ls [])) : W p l e room_1 s m #[Value.ref b] below meth c H locs cells slots Q (F0 m 1136 ls []) := by
  obtain ⟨hx, hb, hml, hown, hts, hlk, hK, hN2, hA, hX2⟩ := id C
  obtain ⟨r, M2, R2, e1, e2, h2⟩ := st_laws (N := 300) (by decide) (xs (i + 1)) (xs (i + 2)) h
  refine lv_aload_n hx hb dL_law_1136 rfl (lv_at hl 2 rfl) ?_
  refine lv_aload_n hx hb dL_law_1137 rfl (lv_at hl 3 rfl) ?_
  refine lv_iload_n hx hb dL_law_1138 rfl (lv_at hl 0 rfl) ?_
  refine lv_iconst (v := 1) hx hb dL_law_1139 (by decide) ?_
  refine lv_iadd hx hb dL_law_1140 ?_
  refine ld_s (j := i + 1) C hX hbl hS hL (by omega) (nI_add i 1) dL_law_1141 ?_
  refine lv_aload_n hx hb dL_law_1142 rfl (lv_at hl 3 rfl) ?_
  refine lv_iload_n hx hb dL_law_1143 rfl (lv_at hl 0 rfl) ?_
  refine lv_iconst (v := 2) hx hb dL_law_1144 (by decide) ?_
  refine lv_iadd hx hb dL_law_1145 ?_
  refine ld_s (j := i + 2) C hX hbl hS hL (by omega) (nI_add i 2) dL_law_1146 ?_
  refine cw_pi (ad := ad) (b := 0) (n := 82) (M := M) (M' := M2) (ws := pool cy ae 100 21 R) (j := ad 0) (As := [.int (xs (i + 1)), .int (xs (i + 2))]) (rest := []) C hP hD hS (c_X5_laws e1) (recv_pool (b := 0) (n := 82) hK hP ⟨by decide, by decide⟩ (ent_5 rfl) (ci := 5) rfl) (gV wd_754 wd_755 wd_756 wd_64 wd_757) evL_X5_laws ⟨rfl, rfl⟩ ⟨(Nat.le_of_ble_eq_true rfl), (Nat.le_of_ble_eq_true rfl)⟩ hl.1 rfl (Nat.le_of_ble_eq_true rfl) dL_law_1147 hc (fun H locs hP hD hS => ?_)
  replace hP : va_P D vwCl (pool cy ae 100 21 R ++ pool cy ad 0 82 M2) H := hP.pm List.perm_append_comm
  replace hD : va_D (fun q => s.heap.size ≤ q) (pool cy ae 100 21 R ++ pool cy ad 0 82 M2) := hD.pm List.perm_append_comm
  refine lv_aload_n hx hb dL_law_1150 rfl (lv_at hl 1 rfl) ?_
  refine lv_aload_n hx hb dL_law_1151 rfl (lv_at hl 3 rfl) ?_
  refine lv_iload_n hx hb dL_law_1152 rfl (lv_at hl 0 rfl) ?_
  refine lv_iconst (v := 1) hx hb dL_law_1153 (by decide) ?_
  refine lv_iadd hx hb dL_law_1154 ?_
  refine ld_s (j := i + 1) C hX hbl hS hL (by omega) (nI_add i 1) dL_law_1155 ?_
  refine lv_aload_n hx hb dL_law_1156 rfl (lv_at hl 3 rfl) ?_
  refine lv_iload_n hx hb dL_law_1157 rfl (lv_at hl 0 rfl) ?_
  refine lv_iconst (v := 2) hx hb dL_law_1158 (by decide) ?_
  refine lv_iadd hx hb dL_law_1159 ?_
  refine ld_s (j := i + 2) C hX hbl hS hL (by omega) (nI_add i 2) dL_law_1160 ?_
  refine cw_pi (ad := ae) (b := 100) (n := 21) (M := R) (M' := R2) (ws := pool cy ad 0 82 M2) (j := ae 100) (As := [.int (xs (i + 1)), .int (xs (i + 2))]) (rest := [.int r]) C hP hD hS (c_X6_laws e2) (recv_pool (b := 100) (n := 21) hK hP ⟨by decide, by decide⟩ (ent_6 rfl) (ci := 6) rfl) (gV wd_1224 wd_1225 wd_1226 wd_75 wd_1227) evL_X6_laws ⟨rfl, rfl⟩ ⟨(Nat.le_of_ble_eq_true rfl), (Nat.le_of_ble_eq_true rfl)⟩ hl.1 rfl (Nat.le_of_ble_eq_true rfl) dL_law_1161 hc (fun H locs hP hD hS => ?_)
  refine lv_icmp_eq (tgt := 1560) hx hb dL_law_1164 (by decide) (fun _ => ?_) (fun z => absurd rfl z)
  exact kk M2 R2 H locs h2 (hP.pm List.perm_append_comm) (hD.pm List.perm_append_comm) hS

set_option maxHeartbeats 4000000 in
set_option maxRecDepth 100000 in
theorem lc_28 (C : CW p s m #[Value.ref b] meth c cL_law 4 RL D cy zz (fun q => s.heap.size ≤ q)) (hX : va_X b L xs s s.heap) (hbl : b < s.heap.size) (hL : L ≤ 3584) {i : Nat} (hi : i + 7 ≤ L) {ad ae : Nat → Nat} {M R : Mem} (h : Sim M R) (hc : cells ≤ room_1.cells ∧ slots ≤ room_1.slots) {H : Heap} {locs : List Loc} {ls : Array Slot} (hP : va_P D vwCl (pool cy ad 0 82 M ++ pool cy ae 100 21 R) H) (hD : va_D (fun q => s.heap.size ≤ q) (pool cy ad 0 82 M ++ pool cy ae 100 21 R)) (hS : va_S (fun q => s.heap.size ≤ q) s.heap H locs) (hl : lv_has ls 4 [(3, .int (nI i)), (2, .ref (ae 100)), (1, .ref (ad 0)), (0, .ref b)])
    (kk : ∀ (M R : Mem) (H : Heap) (locs : List Loc), Sim M R → va_P D vwCl (pool cy ad 0 82 M ++ pool cy ae 100 21 R) H → va_D (fun q => s.heap.size ≤ q) (pool cy ad 0 82 M ++ pool cy ae 100 21 R) → va_S (fun q => s.heap.size ≤ q) s.heap H locs → W p l e room_1 s m #[Value.ref b] below meth c H locs cells slots Q (F0 m 1560 ls [])) : W p l e room_1 s m #[Value.ref b] below meth c H locs cells slots Q (F0 m 1169 ls []) := by
  obtain ⟨hx, hb, hml, hown, hts, hlk, hK, hN2, hA, hX2⟩ := id C
  obtain ⟨r, M2, R2, e1, e2, h2⟩ := st_film (N := 300) (by decide) (xs (i + 1)) (xs (i + 2)) (xs (i + 3)) h
  refine lv_aload_n hx hb dL_law_1169 rfl (lv_at hl 2 rfl) ?_
  refine lv_aload_n hx hb dL_law_1170 rfl (lv_at hl 3 rfl) ?_
  refine lv_iload_n hx hb dL_law_1171 rfl (lv_at hl 0 rfl) ?_
  refine lv_iconst (v := 1) hx hb dL_law_1172 (by decide) ?_
  refine lv_iadd hx hb dL_law_1173 ?_
  refine ld_s (j := i + 1) C hX hbl hS hL (by omega) (nI_add i 1) dL_law_1174 ?_
  refine lv_aload_n hx hb dL_law_1175 rfl (lv_at hl 3 rfl) ?_
  refine lv_iload_n hx hb dL_law_1176 rfl (lv_at hl 0 rfl) ?_
  refine lv_iconst (v := 2) hx hb dL_law_1177 (by decide) ?_
  refine lv_iadd hx hb dL_law_1178 ?_
  refine ld_s (j := i + 2) C hX hbl hS hL (by omega) (nI_add i 2) dL_law_1179 ?_
  refine lv_aload_n hx hb dL_law_1180 rfl (lv_at hl 3 rfl) ?_
  refine lv_iload_n hx hb dL_law_1181 rfl (lv_at hl 0 rfl) ?_
  refine lv_iconst (v := 3) hx hb dL_law_1182 (by decide) ?_
  refine lv_iadd hx hb dL_law_1183 ?_
  refine ld_s (j := i + 3) C hX hbl hS hL (by omega) (nI_add i 3) dL_law_1184 ?_
  refine cw_pi (ad := ad) (b := 0) (n := 82) (M := M) (M' := M2) (ws := pool cy ae 100 21 R) (j := ad 0) (As := [.int (xs (i + 1)), .int (xs (i + 2)), .int (xs (i + 3))]) (rest := []) C hP hD hS (c_X5_film e1) (recv_pool (b := 0) (n := 82) hK hP ⟨by decide, by decide⟩ (ent_5 rfl) (ci := 5) rfl) (gV wd_758 wd_759 wd_760 wd_64 wd_761) evL_X5_film ⟨rfl, rfl⟩ ⟨(Nat.le_of_ble_eq_true rfl), (Nat.le_of_ble_eq_true rfl)⟩ hl.1 rfl (Nat.le_of_ble_eq_true rfl) dL_law_1185 hc (fun H locs hP hD hS => ?_)
  replace hP : va_P D vwCl (pool cy ae 100 21 R ++ pool cy ad 0 82 M2) H := hP.pm List.perm_append_comm
  replace hD : va_D (fun q => s.heap.size ≤ q) (pool cy ae 100 21 R ++ pool cy ad 0 82 M2) := hD.pm List.perm_append_comm
  refine lv_aload_n hx hb dL_law_1188 rfl (lv_at hl 1 rfl) ?_
  refine lv_aload_n hx hb dL_law_1189 rfl (lv_at hl 3 rfl) ?_
  refine lv_iload_n hx hb dL_law_1190 rfl (lv_at hl 0 rfl) ?_
  refine lv_iconst (v := 1) hx hb dL_law_1191 (by decide) ?_
  refine lv_iadd hx hb dL_law_1192 ?_
  refine ld_s (j := i + 1) C hX hbl hS hL (by omega) (nI_add i 1) dL_law_1193 ?_
  refine lv_aload_n hx hb dL_law_1194 rfl (lv_at hl 3 rfl) ?_
  refine lv_iload_n hx hb dL_law_1195 rfl (lv_at hl 0 rfl) ?_
  refine lv_iconst (v := 2) hx hb dL_law_1196 (by decide) ?_
  refine lv_iadd hx hb dL_law_1197 ?_
  refine ld_s (j := i + 2) C hX hbl hS hL (by omega) (nI_add i 2) dL_law_1198 ?_
  refine lv_aload_n hx hb dL_law_1199 rfl (lv_at hl 3 rfl) ?_
  refine lv_iload_n hx hb dL_law_1200 rfl (lv_at hl 0 rfl) ?_
  refine lv_iconst (v := 3) hx hb dL_law_1201 (by decide) ?_
  refine lv_iadd hx hb dL_law_1202 ?_
  refine ld_s (j := i + 3) C hX hbl hS hL (by omega) (nI_add i 3) dL_law_1203 ?_
  refine cw_pi (ad := ae) (b := 100) (n := 21) (M := R) (M' := R2) (ws := pool cy ad 0 82 M2) (j := ae 100) (As := [.int (xs (i + 1)), .int (xs (i + 2)), .int (xs (i + 3))]) (rest := [.int r]) C hP hD hS (c_X6_film e2) (recv_pool (b := 100) (n := 21) hK hP ⟨by decide, by decide⟩ (ent_6 rfl) (ci := 6) rfl) (gV wd_1228 wd_1229 wd_1230 wd_75 wd_1231) evL_X6_film ⟨rfl, rfl⟩ ⟨(Nat.le_of_ble_eq_true rfl), (Nat.le_of_ble_eq_true rfl)⟩ hl.1 rfl (Nat.le_of_ble_eq_true rfl) dL_law_1204 hc (fun H locs hP hD hS => ?_)
  refine lv_icmp_eq (tgt := 1560) hx hb dL_law_1207 (by decide) (fun _ => ?_) (fun z => absurd rfl z)
  exact kk M2 R2 H locs h2 (hP.pm List.perm_append_comm) (hD.pm List.perm_append_comm) hS

set_option maxHeartbeats 4000000 in
set_option maxRecDepth 100000 in
theorem lc_29 (C : CW p s m #[Value.ref b] meth c cL_law 4 RL D cy zz (fun q => s.heap.size ≤ q)) (hX : va_X b L xs s s.heap) (hbl : b < s.heap.size) (hL : L ≤ 3584) {i : Nat} (hi : i + 7 ≤ L) {ad ae : Nat → Nat} {M R : Mem} (h : Sim M R) (hc : cells ≤ room_1.cells ∧ slots ≤ room_1.slots) {H : Heap} {locs : List Loc} {ls : Array Slot} (hP : va_P D vwCl (pool cy ad 0 82 M ++ pool cy ae 100 21 R) H) (hD : va_D (fun q => s.heap.size ≤ q) (pool cy ad 0 82 M ++ pool cy ae 100 21 R)) (hS : va_S (fun q => s.heap.size ≤ q) s.heap H locs) (hl : lv_has ls 4 [(3, .int (nI i)), (2, .ref (ae 100)), (1, .ref (ad 0)), (0, .ref b)])
    (kk : ∀ (M R : Mem) (H : Heap) (locs : List Loc), Sim M R → va_P D vwCl (pool cy ad 0 82 M ++ pool cy ae 100 21 R) H → va_D (fun q => s.heap.size ≤ q) (pool cy ad 0 82 M ++ pool cy ae 100 21 R) → va_S (fun q => s.heap.size ≤ q) s.heap H locs → W p l e room_1 s m #[Value.ref b] below meth c H locs cells slots Q (F0 m 1560 ls [])) : W p l e room_1 s m #[Value.ref b] below meth c H locs cells slots Q (F0 m 1212 ls []) := by
  obtain ⟨hx, hb, hml, hown, hts, hlk, hK, hN2, hA, hX2⟩ := id C
  obtain ⟨r, M2, R2, e1, e2, h2⟩ := st_drawn (N := 300) (by decide) (xs (i + 1)) (xs (i + 2)) h
  refine lv_aload_n hx hb dL_law_1212 rfl (lv_at hl 2 rfl) ?_
  refine lv_aload_n hx hb dL_law_1213 rfl (lv_at hl 3 rfl) ?_
  refine lv_iload_n hx hb dL_law_1214 rfl (lv_at hl 0 rfl) ?_
  refine lv_iconst (v := 1) hx hb dL_law_1215 (by decide) ?_
  refine lv_iadd hx hb dL_law_1216 ?_
  refine ld_s (j := i + 1) C hX hbl hS hL (by omega) (nI_add i 1) dL_law_1217 ?_
  refine lv_aload_n hx hb dL_law_1218 rfl (lv_at hl 3 rfl) ?_
  refine lv_iload_n hx hb dL_law_1219 rfl (lv_at hl 0 rfl) ?_
  refine lv_iconst (v := 2) hx hb dL_law_1220 (by decide) ?_
  refine lv_iadd hx hb dL_law_1221 ?_
  refine ld_s (j := i + 2) C hX hbl hS hL (by omega) (nI_add i 2) dL_law_1222 ?_
  refine cw_pi (ad := ad) (b := 0) (n := 82) (M := M) (M' := M2) (ws := pool cy ae 100 21 R) (j := ad 0) (As := [.int (xs (i + 1)), .int (xs (i + 2))]) (rest := []) C hP hD hS (c_X5_drawn e1) (recv_pool (b := 0) (n := 82) hK hP ⟨by decide, by decide⟩ (ent_5 rfl) (ci := 5) rfl) (gV wd_775 wd_776 wd_777 wd_64 wd_778) evL_X5_drawn ⟨rfl, rfl⟩ ⟨(Nat.le_of_ble_eq_true rfl), (Nat.le_of_ble_eq_true rfl)⟩ hl.1 rfl (Nat.le_of_ble_eq_true rfl) dL_law_1223 hc (fun H locs hP hD hS => ?_)
  replace hP : va_P D vwCl (pool cy ae 100 21 R ++ pool cy ad 0 82 M2) H := hP.pm List.perm_append_comm
  replace hD : va_D (fun q => s.heap.size ≤ q) (pool cy ae 100 21 R ++ pool cy ad 0 82 M2) := hD.pm List.perm_append_comm
  refine lv_aload_n hx hb dL_law_1226 rfl (lv_at hl 1 rfl) ?_
  refine lv_aload_n hx hb dL_law_1227 rfl (lv_at hl 3 rfl) ?_
  refine lv_iload_n hx hb dL_law_1228 rfl (lv_at hl 0 rfl) ?_
  refine lv_iconst (v := 1) hx hb dL_law_1229 (by decide) ?_
  refine lv_iadd hx hb dL_law_1230 ?_
  refine ld_s (j := i + 1) C hX hbl hS hL (by omega) (nI_add i 1) dL_law_1231 ?_
  refine lv_aload_n hx hb dL_law_1232 rfl (lv_at hl 3 rfl) ?_
  refine lv_iload_n hx hb dL_law_1233 rfl (lv_at hl 0 rfl) ?_
  refine lv_iconst (v := 2) hx hb dL_law_1234 (by decide) ?_
  refine lv_iadd hx hb dL_law_1235 ?_
  refine ld_s (j := i + 2) C hX hbl hS hL (by omega) (nI_add i 2) dL_law_1236 ?_
  refine cw_pi (ad := ae) (b := 100) (n := 21) (M := R) (M' := R2) (ws := pool cy ad 0 82 M2) (j := ae 100) (As := [.int (xs (i + 1)), .int (xs (i + 2))]) (rest := [.int r]) C hP hD hS (c_X6_drawn e2) (recv_pool (b := 100) (n := 21) hK hP ⟨by decide, by decide⟩ (ent_6 rfl) (ci := 6) rfl) (gV wd_1232 wd_1233 wd_1234 wd_75 wd_1235) evL_X6_drawn ⟨rfl, rfl⟩ ⟨(Nat.le_of_ble_eq_true rfl), (Nat.le_of_ble_eq_true rfl)⟩ hl.1 rfl (Nat.le_of_ble_eq_true rfl) dL_law_1237 hc (fun H locs hP hD hS => ?_)
  refine lv_icmp_eq (tgt := 1560) hx hb dL_law_1240 (by decide) (fun _ => ?_) (fun z => absurd rfl z)
  exact kk M2 R2 H locs h2 (hP.pm List.perm_append_comm) (hD.pm List.perm_append_comm) hS

set_option maxHeartbeats 4000000 in
set_option maxRecDepth 100000 in
theorem lc_30 (C : CW p s m #[Value.ref b] meth c cL_law 4 RL D cy zz (fun q => s.heap.size ≤ q)) (hX : va_X b L xs s s.heap) (hbl : b < s.heap.size) (hL : L ≤ 3584) {i : Nat} (hi : i + 7 ≤ L) {ad ae : Nat → Nat} {M R : Mem} (h : Sim M R) (hc : cells ≤ room_1.cells ∧ slots ≤ room_1.slots) {H : Heap} {locs : List Loc} {ls : Array Slot} (hP : va_P D vwCl (pool cy ad 0 82 M ++ pool cy ae 100 21 R) H) (hD : va_D (fun q => s.heap.size ≤ q) (pool cy ad 0 82 M ++ pool cy ae 100 21 R)) (hS : va_S (fun q => s.heap.size ≤ q) s.heap H locs) (hl : lv_has ls 4 [(3, .int (nI i)), (2, .ref (ae 100)), (1, .ref (ad 0)), (0, .ref b)])
    (kk : ∀ (M R : Mem) (H : Heap) (locs : List Loc), Sim M R → va_P D vwCl (pool cy ad 0 82 M ++ pool cy ae 100 21 R) H → va_D (fun q => s.heap.size ≤ q) (pool cy ad 0 82 M ++ pool cy ae 100 21 R) → va_S (fun q => s.heap.size ≤ q) s.heap H locs → W p l e room_1 s m #[Value.ref b] below meth c H locs cells slots Q (F0 m 1560 ls [])) : W p l e room_1 s m #[Value.ref b] below meth c H locs cells slots Q (F0 m 1245 ls []) := by
  obtain ⟨hx, hb, hml, hown, hts, hlk, hK, hN2, hA, hX2⟩ := id C
  obtain ⟨r, M2, R2, e1, e2, h2⟩ := st_odds (N := 300) (by decide) (xs (i + 1)) (xs (i + 2)) (xs (i + 3)) (xs (i + 4)) h
  refine lv_aload_n hx hb dL_law_1245 rfl (lv_at hl 2 rfl) ?_
  refine lv_aload_n hx hb dL_law_1246 rfl (lv_at hl 3 rfl) ?_
  refine lv_iload_n hx hb dL_law_1247 rfl (lv_at hl 0 rfl) ?_
  refine lv_iconst (v := 1) hx hb dL_law_1248 (by decide) ?_
  refine lv_iadd hx hb dL_law_1249 ?_
  refine ld_s (j := i + 1) C hX hbl hS hL (by omega) (nI_add i 1) dL_law_1250 ?_
  refine lv_aload_n hx hb dL_law_1251 rfl (lv_at hl 3 rfl) ?_
  refine lv_iload_n hx hb dL_law_1252 rfl (lv_at hl 0 rfl) ?_
  refine lv_iconst (v := 2) hx hb dL_law_1253 (by decide) ?_
  refine lv_iadd hx hb dL_law_1254 ?_
  refine ld_s (j := i + 2) C hX hbl hS hL (by omega) (nI_add i 2) dL_law_1255 ?_
  refine lv_aload_n hx hb dL_law_1256 rfl (lv_at hl 3 rfl) ?_
  refine lv_iload_n hx hb dL_law_1257 rfl (lv_at hl 0 rfl) ?_
  refine lv_iconst (v := 3) hx hb dL_law_1258 (by decide) ?_
  refine lv_iadd hx hb dL_law_1259 ?_
  refine ld_s (j := i + 3) C hX hbl hS hL (by omega) (nI_add i 3) dL_law_1260 ?_
  refine lv_aload_n hx hb dL_law_1261 rfl (lv_at hl 3 rfl) ?_
  refine lv_iload_n hx hb dL_law_1262 rfl (lv_at hl 0 rfl) ?_
  refine lv_iconst (v := 4) hx hb dL_law_1263 (by decide) ?_
  refine lv_iadd hx hb dL_law_1264 ?_
  refine ld_s (j := i + 4) C hX hbl hS hL (by omega) (nI_add i 4) dL_law_1265 ?_
  refine cw_pl (ad := ad) (b := 0) (n := 82) (M := M) (M' := M2) (ws := pool cy ae 100 21 R) (j := ad 0) (As := [.int (xs (i + 1)), .int (xs (i + 2)), .int (xs (i + 3)), .int (xs (i + 4))]) (rest := []) C hP hD hS (c_X5_odds e1) (recv_pool (b := 0) (n := 82) hK hP ⟨by decide, by decide⟩ (ent_5 rfl) (ci := 5) rfl) (gV wd_786 wd_787 wd_788 wd_64 wd_789) evL_X5_odds ⟨rfl, rfl⟩ ⟨(Nat.le_of_ble_eq_true rfl), (Nat.le_of_ble_eq_true rfl)⟩ hl.1 rfl (Nat.le_of_ble_eq_true rfl) dL_law_1266 hc (fun H locs hP hD hS => ?_)
  replace hP : va_P D vwCl (pool cy ae 100 21 R ++ pool cy ad 0 82 M2) H := hP.pm List.perm_append_comm
  replace hD : va_D (fun q => s.heap.size ≤ q) (pool cy ae 100 21 R ++ pool cy ad 0 82 M2) := hD.pm List.perm_append_comm
  refine lv_aload_n hx hb dL_law_1269 rfl (lv_at hl 1 rfl) ?_
  refine lv_aload_n hx hb dL_law_1270 rfl (lv_at hl 3 rfl) ?_
  refine lv_iload_n hx hb dL_law_1271 rfl (lv_at hl 0 rfl) ?_
  refine lv_iconst (v := 1) hx hb dL_law_1272 (by decide) ?_
  refine lv_iadd hx hb dL_law_1273 ?_
  refine ld_s (j := i + 1) C hX hbl hS hL (by omega) (nI_add i 1) dL_law_1274 ?_
  refine lv_aload_n hx hb dL_law_1275 rfl (lv_at hl 3 rfl) ?_
  refine lv_iload_n hx hb dL_law_1276 rfl (lv_at hl 0 rfl) ?_
  refine lv_iconst (v := 2) hx hb dL_law_1277 (by decide) ?_
  refine lv_iadd hx hb dL_law_1278 ?_
  refine ld_s (j := i + 2) C hX hbl hS hL (by omega) (nI_add i 2) dL_law_1279 ?_
  refine lv_aload_n hx hb dL_law_1280 rfl (lv_at hl 3 rfl) ?_
  refine lv_iload_n hx hb dL_law_1281 rfl (lv_at hl 0 rfl) ?_
  refine lv_iconst (v := 3) hx hb dL_law_1282 (by decide) ?_
  refine lv_iadd hx hb dL_law_1283 ?_
  refine ld_s (j := i + 3) C hX hbl hS hL (by omega) (nI_add i 3) dL_law_1284 ?_
  refine lv_aload_n hx hb dL_law_1285 rfl (lv_at hl 3 rfl) ?_
  refine lv_iload_n hx hb dL_law_1286 rfl (lv_at hl 0 rfl) ?_
  refine lv_iconst (v := 4) hx hb dL_law_1287 (by decide) ?_
  refine lv_iadd hx hb dL_law_1288 ?_
  refine ld_s (j := i + 4) C hX hbl hS hL (by omega) (nI_add i 4) dL_law_1289 ?_
  refine cw_pl (ad := ae) (b := 100) (n := 21) (M := R) (M' := R2) (ws := pool cy ad 0 82 M2) (j := ae 100) (As := [.int (xs (i + 1)), .int (xs (i + 2)), .int (xs (i + 3)), .int (xs (i + 4))]) (rest := [.long r]) C hP hD hS (c_X6_odds e2) (recv_pool (b := 100) (n := 21) hK hP ⟨by decide, by decide⟩ (ent_6 rfl) (ci := 6) rfl) (gV wd_1243 wd_1244 wd_1245 wd_75 wd_1246) evL_X6_odds ⟨rfl, rfl⟩ ⟨(Nat.le_of_ble_eq_true rfl), (Nat.le_of_ble_eq_true rfl)⟩ hl.1 rfl (Nat.le_of_ble_eq_true rfl) dL_law_1290 hc (fun H locs hP hD hS => ?_)
  refine W.lcmp hx hb dL_law_1293 ?_
  rw [lg_cmp_rf]
  refine lv_if_eq (tgt := 1560) hx hb dL_law_1294 (by decide) (fun _ => ?_) (fun z => absurd rfl z)
  exact kk M2 R2 H locs h2 (hP.pm List.perm_append_comm) (hD.pm List.perm_append_comm) hS

set_option maxHeartbeats 4000000 in
set_option maxRecDepth 100000 in
theorem lc_31 (C : CW p s m #[Value.ref b] meth c cL_law 4 RL D cy zz (fun q => s.heap.size ≤ q)) (hX : va_X b L xs s s.heap) (hbl : b < s.heap.size) (hL : L ≤ 3584) {i : Nat} (hi : i + 7 ≤ L) {ad ae : Nat → Nat} {M R : Mem} (h : Sim M R) (hc : cells ≤ room_1.cells ∧ slots ≤ room_1.slots) {H : Heap} {locs : List Loc} {ls : Array Slot} (hP : va_P D vwCl (pool cy ad 0 82 M ++ pool cy ae 100 21 R) H) (hD : va_D (fun q => s.heap.size ≤ q) (pool cy ad 0 82 M ++ pool cy ae 100 21 R)) (hS : va_S (fun q => s.heap.size ≤ q) s.heap H locs) (hl : lv_has ls 4 [(3, .int (nI i)), (2, .ref (ae 100)), (1, .ref (ad 0)), (0, .ref b)])
    (kk : ∀ (M R : Mem) (H : Heap) (locs : List Loc), Sim M R → va_P D vwCl (pool cy ad 0 82 M ++ pool cy ae 100 21 R) H → va_D (fun q => s.heap.size ≤ q) (pool cy ad 0 82 M ++ pool cy ae 100 21 R) → va_S (fun q => s.heap.size ≤ q) s.heap H locs → W p l e room_1 s m #[Value.ref b] below meth c H locs cells slots Q (F0 m 1560 ls [])) : W p l e room_1 s m #[Value.ref b] below meth c H locs cells slots Q (F0 m 1299 ls []) := by
  obtain ⟨hx, hb, hml, hown, hts, hlk, hK, hN2, hA, hX2⟩ := id C
  obtain ⟨r, M2, R2, e1, e2, h2⟩ := st_image (N := 300) (by decide)  h
  refine lv_aload_n hx hb dL_law_1299 rfl (lv_at hl 2 rfl) ?_
  refine cw_pi (ad := ad) (b := 0) (n := 82) (M := M) (M' := M2) (ws := pool cy ae 100 21 R) (j := ad 0) (As := []) (rest := []) C hP hD hS (c_X5_image e1) (recv_pool (b := 0) (n := 82) hK hP ⟨by decide, by decide⟩ (ent_5 rfl) (ci := 5) rfl) (gV wd_790 wd_791 wd_792 wd_64 wd_793) evL_X5_image ⟨rfl, rfl⟩ ⟨(Nat.le_of_ble_eq_true rfl), (Nat.le_of_ble_eq_true rfl)⟩ hl.1 rfl (Nat.le_of_ble_eq_true rfl) dL_law_1300 hc (fun H locs hP hD hS => ?_)
  replace hP : va_P D vwCl (pool cy ae 100 21 R ++ pool cy ad 0 82 M2) H := hP.pm List.perm_append_comm
  replace hD : va_D (fun q => s.heap.size ≤ q) (pool cy ae 100 21 R ++ pool cy ad 0 82 M2) := hD.pm List.perm_append_comm
  refine lv_aload_n hx hb dL_law_1303 rfl (lv_at hl 1 rfl) ?_
  refine cw_pi (ad := ae) (b := 100) (n := 21) (M := R) (M' := R2) (ws := pool cy ad 0 82 M2) (j := ae 100) (As := []) (rest := [.int r]) C hP hD hS (c_X6_image e2) (recv_pool (b := 100) (n := 21) hK hP ⟨by decide, by decide⟩ (ent_6 rfl) (ci := 6) rfl) (gV wd_1247 wd_1248 wd_1249 wd_75 wd_1250) evL_X6_image ⟨rfl, rfl⟩ ⟨(Nat.le_of_ble_eq_true rfl), (Nat.le_of_ble_eq_true rfl)⟩ hl.1 rfl (Nat.le_of_ble_eq_true rfl) dL_law_1304 hc (fun H locs hP hD hS => ?_)
  refine lv_icmp_eq (tgt := 1560) hx hb dL_law_1307 (by decide) (fun _ => ?_) (fun z => absurd rfl z)
  exact kk M2 R2 H locs h2 (hP.pm List.perm_append_comm) (hD.pm List.perm_append_comm) hS

set_option maxHeartbeats 4000000 in
set_option maxRecDepth 100000 in
theorem lc_32 (C : CW p s m #[Value.ref b] meth c cL_law 4 RL D cy zz (fun q => s.heap.size ≤ q)) (hX : va_X b L xs s s.heap) (hbl : b < s.heap.size) (hL : L ≤ 3584) {i : Nat} (hi : i + 7 ≤ L) {ad ae : Nat → Nat} {M R : Mem} (h : Sim M R) (hc : cells ≤ room_1.cells ∧ slots ≤ room_1.slots) {H : Heap} {locs : List Loc} {ls : Array Slot} (hP : va_P D vwCl (pool cy ad 0 82 M ++ pool cy ae 100 21 R) H) (hD : va_D (fun q => s.heap.size ≤ q) (pool cy ad 0 82 M ++ pool cy ae 100 21 R)) (hS : va_S (fun q => s.heap.size ≤ q) s.heap H locs) (hl : lv_has ls 4 [(3, .int (nI i)), (2, .ref (ae 100)), (1, .ref (ad 0)), (0, .ref b)])
    (kk : ∀ (M R : Mem) (H : Heap) (locs : List Loc), Sim M R → va_P D vwCl (pool cy ad 0 82 M ++ pool cy ae 100 21 R) H → va_D (fun q => s.heap.size ≤ q) (pool cy ad 0 82 M ++ pool cy ae 100 21 R) → va_S (fun q => s.heap.size ≤ q) s.heap H locs → W p l e room_1 s m #[Value.ref b] below meth c H locs cells slots Q (F0 m 1560 ls [])) : W p l e room_1 s m #[Value.ref b] below meth c H locs cells slots Q (F0 m 1312 ls []) := by
  obtain ⟨hx, hb, hml, hown, hts, hlk, hK, hN2, hA, hX2⟩ := id C
  obtain ⟨r, M2, R2, e1, e2, h2⟩ := st_back (N := 300) (by decide)  h
  refine lv_aload_n hx hb dL_law_1312 rfl (lv_at hl 2 rfl) ?_
  refine cw_pi (ad := ad) (b := 0) (n := 82) (M := M) (M' := M2) (ws := pool cy ae 100 21 R) (j := ad 0) (As := []) (rest := []) C hP hD hS (c_X5_back e1) (recv_pool (b := 0) (n := 82) hK hP ⟨by decide, by decide⟩ (ent_5 rfl) (ci := 5) rfl) (gV wd_794 wd_795 wd_796 wd_64 wd_797) evL_X5_back ⟨rfl, rfl⟩ ⟨(Nat.le_of_ble_eq_true rfl), (Nat.le_of_ble_eq_true rfl)⟩ hl.1 rfl (Nat.le_of_ble_eq_true rfl) dL_law_1313 hc (fun H locs hP hD hS => ?_)
  replace hP : va_P D vwCl (pool cy ae 100 21 R ++ pool cy ad 0 82 M2) H := hP.pm List.perm_append_comm
  replace hD : va_D (fun q => s.heap.size ≤ q) (pool cy ae 100 21 R ++ pool cy ad 0 82 M2) := hD.pm List.perm_append_comm
  refine lv_aload_n hx hb dL_law_1316 rfl (lv_at hl 1 rfl) ?_
  refine cw_pi (ad := ae) (b := 100) (n := 21) (M := R) (M' := R2) (ws := pool cy ad 0 82 M2) (j := ae 100) (As := []) (rest := [.int r]) C hP hD hS (c_X6_back e2) (recv_pool (b := 100) (n := 21) hK hP ⟨by decide, by decide⟩ (ent_6 rfl) (ci := 6) rfl) (gV wd_1251 wd_1252 wd_1253 wd_75 wd_1254) evL_X6_back ⟨rfl, rfl⟩ ⟨(Nat.le_of_ble_eq_true rfl), (Nat.le_of_ble_eq_true rfl)⟩ hl.1 rfl (Nat.le_of_ble_eq_true rfl) dL_law_1317 hc (fun H locs hP hD hS => ?_)
  refine lv_icmp_eq (tgt := 1560) hx hb dL_law_1320 (by decide) (fun _ => ?_) (fun z => absurd rfl z)
  exact kk M2 R2 H locs h2 (hP.pm List.perm_append_comm) (hD.pm List.perm_append_comm) hS

set_option maxHeartbeats 4000000 in
set_option maxRecDepth 100000 in
theorem lc_33 (C : CW p s m #[Value.ref b] meth c cL_law 4 RL D cy zz (fun q => s.heap.size ≤ q)) (hX : va_X b L xs s s.heap) (hbl : b < s.heap.size) (hL : L ≤ 3584) {i : Nat} (hi : i + 7 ≤ L) {ad ae : Nat → Nat} {M R : Mem} (h : Sim M R) (hc : cells ≤ room_1.cells ∧ slots ≤ room_1.slots) {H : Heap} {locs : List Loc} {ls : Array Slot} (hP : va_P D vwCl (pool cy ad 0 82 M ++ pool cy ae 100 21 R) H) (hD : va_D (fun q => s.heap.size ≤ q) (pool cy ad 0 82 M ++ pool cy ae 100 21 R)) (hS : va_S (fun q => s.heap.size ≤ q) s.heap H locs) (hl : lv_has ls 4 [(3, .int (nI i)), (2, .ref (ae 100)), (1, .ref (ad 0)), (0, .ref b)])
    (kk : ∀ (M R : Mem) (H : Heap) (locs : List Loc), Sim M R → va_P D vwCl (pool cy ad 0 82 M ++ pool cy ae 100 21 R) H → va_D (fun q => s.heap.size ≤ q) (pool cy ad 0 82 M ++ pool cy ae 100 21 R) → va_S (fun q => s.heap.size ≤ q) s.heap H locs → W p l e room_1 s m #[Value.ref b] below meth c H locs cells slots Q (F0 m 1560 ls [])) : W p l e room_1 s m #[Value.ref b] below meth c H locs cells slots Q (F0 m 1325 ls []) := by
  obtain ⟨hx, hb, hml, hown, hts, hlk, hK, hN2, hA, hX2⟩ := id C
  obtain ⟨r, M2, R2, e1, e2, h2⟩ := st_sheet (N := 300) (by decide) (xs (i + 1)) (xs (i + 2)) (xs (i + 3)) h
  refine lv_aload_n hx hb dL_law_1325 rfl (lv_at hl 2 rfl) ?_
  refine lv_aload_n hx hb dL_law_1326 rfl (lv_at hl 3 rfl) ?_
  refine lv_iload_n hx hb dL_law_1327 rfl (lv_at hl 0 rfl) ?_
  refine lv_iconst (v := 1) hx hb dL_law_1328 (by decide) ?_
  refine lv_iadd hx hb dL_law_1329 ?_
  refine ld_s (j := i + 1) C hX hbl hS hL (by omega) (nI_add i 1) dL_law_1330 ?_
  refine lv_aload_n hx hb dL_law_1331 rfl (lv_at hl 3 rfl) ?_
  refine lv_iload_n hx hb dL_law_1332 rfl (lv_at hl 0 rfl) ?_
  refine lv_iconst (v := 2) hx hb dL_law_1333 (by decide) ?_
  refine lv_iadd hx hb dL_law_1334 ?_
  refine ld_s (j := i + 2) C hX hbl hS hL (by omega) (nI_add i 2) dL_law_1335 ?_
  refine lv_aload_n hx hb dL_law_1336 rfl (lv_at hl 3 rfl) ?_
  refine lv_iload_n hx hb dL_law_1337 rfl (lv_at hl 0 rfl) ?_
  refine lv_iconst (v := 3) hx hb dL_law_1338 (by decide) ?_
  refine lv_iadd hx hb dL_law_1339 ?_
  refine ld_s (j := i + 3) C hX hbl hS hL (by omega) (nI_add i 3) dL_law_1340 ?_
  refine cw_pi (ad := ad) (b := 0) (n := 82) (M := M) (M' := M2) (ws := pool cy ae 100 21 R) (j := ad 0) (As := [.int (xs (i + 1)), .int (xs (i + 2)), .int (xs (i + 3))]) (rest := []) C hP hD hS (c_X5_sheet e1) (recv_pool (b := 0) (n := 82) hK hP ⟨by decide, by decide⟩ (ent_5 rfl) (ci := 5) rfl) (gV wd_798 wd_799 wd_800 wd_64 wd_801) evL_X5_sheet ⟨rfl, rfl⟩ ⟨(Nat.le_of_ble_eq_true rfl), (Nat.le_of_ble_eq_true rfl)⟩ hl.1 rfl (Nat.le_of_ble_eq_true rfl) dL_law_1341 hc (fun H locs hP hD hS => ?_)
  replace hP : va_P D vwCl (pool cy ae 100 21 R ++ pool cy ad 0 82 M2) H := hP.pm List.perm_append_comm
  replace hD : va_D (fun q => s.heap.size ≤ q) (pool cy ae 100 21 R ++ pool cy ad 0 82 M2) := hD.pm List.perm_append_comm
  refine lv_aload_n hx hb dL_law_1344 rfl (lv_at hl 1 rfl) ?_
  refine lv_aload_n hx hb dL_law_1345 rfl (lv_at hl 3 rfl) ?_
  refine lv_iload_n hx hb dL_law_1346 rfl (lv_at hl 0 rfl) ?_
  refine lv_iconst (v := 1) hx hb dL_law_1347 (by decide) ?_
  refine lv_iadd hx hb dL_law_1348 ?_
  refine ld_s (j := i + 1) C hX hbl hS hL (by omega) (nI_add i 1) dL_law_1349 ?_
  refine lv_aload_n hx hb dL_law_1350 rfl (lv_at hl 3 rfl) ?_
  refine lv_iload_n hx hb dL_law_1351 rfl (lv_at hl 0 rfl) ?_
  refine lv_iconst (v := 2) hx hb dL_law_1352 (by decide) ?_
  refine lv_iadd hx hb dL_law_1353 ?_
  refine ld_s (j := i + 2) C hX hbl hS hL (by omega) (nI_add i 2) dL_law_1354 ?_
  refine lv_aload_n hx hb dL_law_1355 rfl (lv_at hl 3 rfl) ?_
  refine lv_iload_n hx hb dL_law_1356 rfl (lv_at hl 0 rfl) ?_
  refine lv_iconst (v := 3) hx hb dL_law_1357 (by decide) ?_
  refine lv_iadd hx hb dL_law_1358 ?_
  refine ld_s (j := i + 3) C hX hbl hS hL (by omega) (nI_add i 3) dL_law_1359 ?_
  refine cw_pi (ad := ae) (b := 100) (n := 21) (M := R) (M' := R2) (ws := pool cy ad 0 82 M2) (j := ae 100) (As := [.int (xs (i + 1)), .int (xs (i + 2)), .int (xs (i + 3))]) (rest := [.int r]) C hP hD hS (c_X6_sheet e2) (recv_pool (b := 100) (n := 21) hK hP ⟨by decide, by decide⟩ (ent_6 rfl) (ci := 6) rfl) (gV wd_1255 wd_1256 wd_1257 wd_75 wd_1258) evL_X6_sheet ⟨rfl, rfl⟩ ⟨(Nat.le_of_ble_eq_true rfl), (Nat.le_of_ble_eq_true rfl)⟩ hl.1 rfl (Nat.le_of_ble_eq_true rfl) dL_law_1360 hc (fun H locs hP hD hS => ?_)
  refine lv_icmp_eq (tgt := 1560) hx hb dL_law_1363 (by decide) (fun _ => ?_) (fun z => absurd rfl z)
  exact kk M2 R2 H locs h2 (hP.pm List.perm_append_comm) (hD.pm List.perm_append_comm) hS

set_option maxHeartbeats 4000000 in
set_option maxRecDepth 100000 in
theorem lc_34 (C : CW p s m #[Value.ref b] meth c cL_law 4 RL D cy zz (fun q => s.heap.size ≤ q)) (hX : va_X b L xs s s.heap) (hbl : b < s.heap.size) (hL : L ≤ 3584) {i : Nat} (hi : i + 7 ≤ L) {ad ae : Nat → Nat} {M R : Mem} (h : Sim M R) (hc : cells ≤ room_1.cells ∧ slots ≤ room_1.slots) {H : Heap} {locs : List Loc} {ls : Array Slot} (hP : va_P D vwCl (pool cy ad 0 82 M ++ pool cy ae 100 21 R) H) (hD : va_D (fun q => s.heap.size ≤ q) (pool cy ad 0 82 M ++ pool cy ae 100 21 R)) (hS : va_S (fun q => s.heap.size ≤ q) s.heap H locs) (hl : lv_has ls 4 [(3, .int (nI i)), (2, .ref (ae 100)), (1, .ref (ad 0)), (0, .ref b)])
    (kk : ∀ (M R : Mem) (H : Heap) (locs : List Loc), Sim M R → va_P D vwCl (pool cy ad 0 82 M ++ pool cy ae 100 21 R) H → va_D (fun q => s.heap.size ≤ q) (pool cy ad 0 82 M ++ pool cy ae 100 21 R) → va_S (fun q => s.heap.size ≤ q) s.heap H locs → W p l e room_1 s m #[Value.ref b] below meth c H locs cells slots Q (F0 m 1560 ls [])) : W p l e room_1 s m #[Value.ref b] below meth c H locs cells slots Q (F0 m 1368 ls []) := by
  obtain ⟨hx, hb, hml, hown, hts, hlk, hK, hN2, hA, hX2⟩ := id C
  obtain ⟨r, M2, R2, e1, e2, h2⟩ := st_cell (xs (i + 1)) (xs (i + 2)) (xs (i + 3)) h
  refine lv_aload_n hx hb dL_law_1368 rfl (lv_at hl 2 rfl) ?_
  refine lv_aload_n hx hb dL_law_1369 rfl (lv_at hl 3 rfl) ?_
  refine lv_iload_n hx hb dL_law_1370 rfl (lv_at hl 0 rfl) ?_
  refine lv_iconst (v := 1) hx hb dL_law_1371 (by decide) ?_
  refine lv_iadd hx hb dL_law_1372 ?_
  refine ld_s (j := i + 1) C hX hbl hS hL (by omega) (nI_add i 1) dL_law_1373 ?_
  refine lv_aload_n hx hb dL_law_1374 rfl (lv_at hl 3 rfl) ?_
  refine lv_iload_n hx hb dL_law_1375 rfl (lv_at hl 0 rfl) ?_
  refine lv_iconst (v := 2) hx hb dL_law_1376 (by decide) ?_
  refine lv_iadd hx hb dL_law_1377 ?_
  refine ld_s (j := i + 2) C hX hbl hS hL (by omega) (nI_add i 2) dL_law_1378 ?_
  refine lv_aload_n hx hb dL_law_1379 rfl (lv_at hl 3 rfl) ?_
  refine lv_iload_n hx hb dL_law_1380 rfl (lv_at hl 0 rfl) ?_
  refine lv_iconst (v := 3) hx hb dL_law_1381 (by decide) ?_
  refine lv_iadd hx hb dL_law_1382 ?_
  refine ld_s (j := i + 3) C hX hbl hS hL (by omega) (nI_add i 3) dL_law_1383 ?_
  refine cw_pi (ad := ad) (b := 0) (n := 82) (M := M) (M' := M2) (ws := pool cy ae 100 21 R) (j := ad 0) (As := [.int (xs (i + 1)), .int (xs (i + 2)), .int (xs (i + 3))]) (rest := []) C hP hD hS (c_X5_cell e1) (recv_pool (b := 0) (n := 82) hK hP ⟨by decide, by decide⟩ (ent_5 rfl) (ci := 5) rfl) (gV wd_802 wd_803 wd_804 wd_64 wd_805) evL_X5_cell ⟨rfl, rfl⟩ ⟨(Nat.le_of_ble_eq_true rfl), (Nat.le_of_ble_eq_true rfl)⟩ hl.1 rfl (Nat.le_of_ble_eq_true rfl) dL_law_1384 hc (fun H locs hP hD hS => ?_)
  replace hP : va_P D vwCl (pool cy ae 100 21 R ++ pool cy ad 0 82 M2) H := hP.pm List.perm_append_comm
  replace hD : va_D (fun q => s.heap.size ≤ q) (pool cy ae 100 21 R ++ pool cy ad 0 82 M2) := hD.pm List.perm_append_comm
  refine lv_aload_n hx hb dL_law_1387 rfl (lv_at hl 1 rfl) ?_
  refine lv_aload_n hx hb dL_law_1388 rfl (lv_at hl 3 rfl) ?_
  refine lv_iload_n hx hb dL_law_1389 rfl (lv_at hl 0 rfl) ?_
  refine lv_iconst (v := 1) hx hb dL_law_1390 (by decide) ?_
  refine lv_iadd hx hb dL_law_1391 ?_
  refine ld_s (j := i + 1) C hX hbl hS hL (by omega) (nI_add i 1) dL_law_1392 ?_
  refine lv_aload_n hx hb dL_law_1393 rfl (lv_at hl 3 rfl) ?_
  refine lv_iload_n hx hb dL_law_1394 rfl (lv_at hl 0 rfl) ?_
  refine lv_iconst (v := 2) hx hb dL_law_1395 (by decide) ?_
  refine lv_iadd hx hb dL_law_1396 ?_
  refine ld_s (j := i + 2) C hX hbl hS hL (by omega) (nI_add i 2) dL_law_1397 ?_
  refine lv_aload_n hx hb dL_law_1398 rfl (lv_at hl 3 rfl) ?_
  refine lv_iload_n hx hb dL_law_1399 rfl (lv_at hl 0 rfl) ?_
  refine lv_iconst (v := 3) hx hb dL_law_1400 (by decide) ?_
  refine lv_iadd hx hb dL_law_1401 ?_
  refine ld_s (j := i + 3) C hX hbl hS hL (by omega) (nI_add i 3) dL_law_1402 ?_
  refine cw_pi (ad := ae) (b := 100) (n := 21) (M := R) (M' := R2) (ws := pool cy ad 0 82 M2) (j := ae 100) (As := [.int (xs (i + 1)), .int (xs (i + 2)), .int (xs (i + 3))]) (rest := [.int r]) C hP hD hS (c_X6_cell e2) (recv_pool (b := 100) (n := 21) hK hP ⟨by decide, by decide⟩ (ent_6 rfl) (ci := 6) rfl) (gV wd_1259 wd_1260 wd_1261 wd_75 wd_1262) evL_X6_cell ⟨rfl, rfl⟩ ⟨(Nat.le_of_ble_eq_true rfl), (Nat.le_of_ble_eq_true rfl)⟩ hl.1 rfl (Nat.le_of_ble_eq_true rfl) dL_law_1403 hc (fun H locs hP hD hS => ?_)
  refine lv_icmp_eq (tgt := 1560) hx hb dL_law_1406 (by decide) (fun _ => ?_) (fun z => absurd rfl z)
  exact kk M2 R2 H locs h2 (hP.pm List.perm_append_comm) (hD.pm List.perm_append_comm) hS

set_option maxHeartbeats 4000000 in
set_option maxRecDepth 100000 in
theorem lc_35 (C : CW p s m #[Value.ref b] meth c cL_law 4 RL D cy zz (fun q => s.heap.size ≤ q)) (hX : va_X b L xs s s.heap) (hbl : b < s.heap.size) (hL : L ≤ 3584) {i : Nat} (hi : i + 7 ≤ L) {ad ae : Nat → Nat} {M R : Mem} (h : Sim M R) (hc : cells ≤ room_1.cells ∧ slots ≤ room_1.slots) {H : Heap} {locs : List Loc} {ls : Array Slot} (hP : va_P D vwCl (pool cy ad 0 82 M ++ pool cy ae 100 21 R) H) (hD : va_D (fun q => s.heap.size ≤ q) (pool cy ad 0 82 M ++ pool cy ae 100 21 R)) (hS : va_S (fun q => s.heap.size ≤ q) s.heap H locs) (hl : lv_has ls 4 [(3, .int (nI i)), (2, .ref (ae 100)), (1, .ref (ad 0)), (0, .ref b)])
    (kk : ∀ (M R : Mem) (H : Heap) (locs : List Loc), Sim M R → va_P D vwCl (pool cy ad 0 82 M ++ pool cy ae 100 21 R) H → va_D (fun q => s.heap.size ≤ q) (pool cy ad 0 82 M ++ pool cy ae 100 21 R) → va_S (fun q => s.heap.size ≤ q) s.heap H locs → W p l e room_1 s m #[Value.ref b] below meth c H locs cells slots Q (F0 m 1560 ls [])) : W p l e room_1 s m #[Value.ref b] below meth c H locs cells slots Q (F0 m 1411 ls []) := by
  obtain ⟨hx, hb, hml, hown, hts, hlk, hK, hN2, hA, hX2⟩ := id C
  obtain ⟨r, M2, R2, e1, e2, h2⟩ := st_copy (N := 300) (by decide) (xs (i + 1)) (xs (i + 2)) (xs (i + 3)) (xs (i + 4)) (xs (i + 5)) h
  refine lv_aload_n hx hb dL_law_1411 rfl (lv_at hl 2 rfl) ?_
  refine lv_aload_n hx hb dL_law_1412 rfl (lv_at hl 3 rfl) ?_
  refine lv_iload_n hx hb dL_law_1413 rfl (lv_at hl 0 rfl) ?_
  refine lv_iconst (v := 1) hx hb dL_law_1414 (by decide) ?_
  refine lv_iadd hx hb dL_law_1415 ?_
  refine ld_s (j := i + 1) C hX hbl hS hL (by omega) (nI_add i 1) dL_law_1416 ?_
  refine lv_aload_n hx hb dL_law_1417 rfl (lv_at hl 3 rfl) ?_
  refine lv_iload_n hx hb dL_law_1418 rfl (lv_at hl 0 rfl) ?_
  refine lv_iconst (v := 2) hx hb dL_law_1419 (by decide) ?_
  refine lv_iadd hx hb dL_law_1420 ?_
  refine ld_s (j := i + 2) C hX hbl hS hL (by omega) (nI_add i 2) dL_law_1421 ?_
  refine lv_aload_n hx hb dL_law_1422 rfl (lv_at hl 3 rfl) ?_
  refine lv_iload_n hx hb dL_law_1423 rfl (lv_at hl 0 rfl) ?_
  refine lv_iconst (v := 3) hx hb dL_law_1424 (by decide) ?_
  refine lv_iadd hx hb dL_law_1425 ?_
  refine ld_s (j := i + 3) C hX hbl hS hL (by omega) (nI_add i 3) dL_law_1426 ?_
  refine lv_aload_n hx hb dL_law_1427 rfl (lv_at hl 3 rfl) ?_
  refine lv_iload_n hx hb dL_law_1428 rfl (lv_at hl 0 rfl) ?_
  refine lv_iconst (v := 4) hx hb dL_law_1429 (by decide) ?_
  refine lv_iadd hx hb dL_law_1430 ?_
  refine ld_s (j := i + 4) C hX hbl hS hL (by omega) (nI_add i 4) dL_law_1431 ?_
  refine lv_aload_n hx hb dL_law_1432 rfl (lv_at hl 3 rfl) ?_
  refine lv_iload_n hx hb dL_law_1433 rfl (lv_at hl 0 rfl) ?_
  refine lv_iconst (v := 5) hx hb dL_law_1434 (by decide) ?_
  refine lv_iadd hx hb dL_law_1435 ?_
  refine ld_s (j := i + 5) C hX hbl hS hL (by omega) (nI_add i 5) dL_law_1436 ?_
  refine cw_pi (ad := ad) (b := 0) (n := 82) (M := M) (M' := M2) (ws := pool cy ae 100 21 R) (j := ad 0) (As := [.int (xs (i + 1)), .int (xs (i + 2)), .int (xs (i + 3)), .int (xs (i + 4)), .int (xs (i + 5))]) (rest := []) C hP hD hS (c_X5_copy e1) (recv_pool (b := 0) (n := 82) hK hP ⟨by decide, by decide⟩ (ent_5 rfl) (ci := 5) rfl) (gV wd_807 wd_808 wd_809 wd_64 wd_810) evL_X5_copy ⟨rfl, rfl⟩ ⟨(Nat.le_of_ble_eq_true rfl), (Nat.le_of_ble_eq_true rfl)⟩ hl.1 rfl (Nat.le_of_ble_eq_true rfl) dL_law_1437 hc (fun H locs hP hD hS => ?_)
  replace hP : va_P D vwCl (pool cy ae 100 21 R ++ pool cy ad 0 82 M2) H := hP.pm List.perm_append_comm
  replace hD : va_D (fun q => s.heap.size ≤ q) (pool cy ae 100 21 R ++ pool cy ad 0 82 M2) := hD.pm List.perm_append_comm
  refine lv_aload_n hx hb dL_law_1440 rfl (lv_at hl 1 rfl) ?_
  refine lv_aload_n hx hb dL_law_1441 rfl (lv_at hl 3 rfl) ?_
  refine lv_iload_n hx hb dL_law_1442 rfl (lv_at hl 0 rfl) ?_
  refine lv_iconst (v := 1) hx hb dL_law_1443 (by decide) ?_
  refine lv_iadd hx hb dL_law_1444 ?_
  refine ld_s (j := i + 1) C hX hbl hS hL (by omega) (nI_add i 1) dL_law_1445 ?_
  refine lv_aload_n hx hb dL_law_1446 rfl (lv_at hl 3 rfl) ?_
  refine lv_iload_n hx hb dL_law_1447 rfl (lv_at hl 0 rfl) ?_
  refine lv_iconst (v := 2) hx hb dL_law_1448 (by decide) ?_
  refine lv_iadd hx hb dL_law_1449 ?_
  refine ld_s (j := i + 2) C hX hbl hS hL (by omega) (nI_add i 2) dL_law_1450 ?_
  refine lv_aload_n hx hb dL_law_1451 rfl (lv_at hl 3 rfl) ?_
  refine lv_iload_n hx hb dL_law_1452 rfl (lv_at hl 0 rfl) ?_
  refine lv_iconst (v := 3) hx hb dL_law_1453 (by decide) ?_
  refine lv_iadd hx hb dL_law_1454 ?_
  refine ld_s (j := i + 3) C hX hbl hS hL (by omega) (nI_add i 3) dL_law_1455 ?_
  refine lv_aload_n hx hb dL_law_1456 rfl (lv_at hl 3 rfl) ?_
  refine lv_iload_n hx hb dL_law_1457 rfl (lv_at hl 0 rfl) ?_
  refine lv_iconst (v := 4) hx hb dL_law_1458 (by decide) ?_
  refine lv_iadd hx hb dL_law_1459 ?_
  refine ld_s (j := i + 4) C hX hbl hS hL (by omega) (nI_add i 4) dL_law_1460 ?_
  refine lv_aload_n hx hb dL_law_1461 rfl (lv_at hl 3 rfl) ?_
  refine lv_iload_n hx hb dL_law_1462 rfl (lv_at hl 0 rfl) ?_
  refine lv_iconst (v := 5) hx hb dL_law_1463 (by decide) ?_
  refine lv_iadd hx hb dL_law_1464 ?_
  refine ld_s (j := i + 5) C hX hbl hS hL (by omega) (nI_add i 5) dL_law_1465 ?_
  refine cw_pi (ad := ae) (b := 100) (n := 21) (M := R) (M' := R2) (ws := pool cy ad 0 82 M2) (j := ae 100) (As := [.int (xs (i + 1)), .int (xs (i + 2)), .int (xs (i + 3)), .int (xs (i + 4)), .int (xs (i + 5))]) (rest := [.int r]) C hP hD hS (c_X6_copy e2) (recv_pool (b := 100) (n := 21) hK hP ⟨by decide, by decide⟩ (ent_6 rfl) (ci := 6) rfl) (gV wd_1263 wd_1264 wd_1265 wd_75 wd_1266) evL_X6_copy ⟨rfl, rfl⟩ ⟨(Nat.le_of_ble_eq_true rfl), (Nat.le_of_ble_eq_true rfl)⟩ hl.1 rfl (Nat.le_of_ble_eq_true rfl) dL_law_1466 hc (fun H locs hP hD hS => ?_)
  refine lv_icmp_eq (tgt := 1560) hx hb dL_law_1469 (by decide) (fun _ => ?_) (fun z => absurd rfl z)
  exact kk M2 R2 H locs h2 (hP.pm List.perm_append_comm) (hD.pm List.perm_append_comm) hS

set_option maxHeartbeats 4000000 in
set_option maxRecDepth 100000 in
theorem lc_36 (C : CW p s m #[Value.ref b] meth c cL_law 4 RL D cy zz (fun q => s.heap.size ≤ q)) (hX : va_X b L xs s s.heap) (hbl : b < s.heap.size) (hL : L ≤ 3584) {i : Nat} (hi : i + 7 ≤ L) {ad ae : Nat → Nat} {M R : Mem} (h : Sim M R) (hc : cells ≤ room_1.cells ∧ slots ≤ room_1.slots) {H : Heap} {locs : List Loc} {ls : Array Slot} (hP : va_P D vwCl (pool cy ad 0 82 M ++ pool cy ae 100 21 R) H) (hD : va_D (fun q => s.heap.size ≤ q) (pool cy ad 0 82 M ++ pool cy ae 100 21 R)) (hS : va_S (fun q => s.heap.size ≤ q) s.heap H locs) (hl : lv_has ls 4 [(3, .int (nI i)), (2, .ref (ae 100)), (1, .ref (ad 0)), (0, .ref b)])
    (kk : ∀ (M R : Mem) (H : Heap) (locs : List Loc), Sim M R → va_P D vwCl (pool cy ad 0 82 M ++ pool cy ae 100 21 R) H → va_D (fun q => s.heap.size ≤ q) (pool cy ad 0 82 M ++ pool cy ae 100 21 R) → va_S (fun q => s.heap.size ≤ q) s.heap H locs → W p l e room_1 s m #[Value.ref b] below meth c H locs cells slots Q (F0 m 1560 ls [])) : W p l e room_1 s m #[Value.ref b] below meth c H locs cells slots Q (F0 m 1474 ls []) := by
  obtain ⟨hx, hb, hml, hown, hts, hlk, hK, hN2, hA, hX2⟩ := id C
  obtain ⟨r, M2, R2, e1, e2, h2⟩ := st_sleepersBy (N := 300) (by decide) (xs (i + 1)) (xs (i + 2)) (xs (i + 3)) (xs (i + 4)) h
  refine lv_aload_n hx hb dL_law_1474 rfl (lv_at hl 2 rfl) ?_
  refine lv_aload_n hx hb dL_law_1475 rfl (lv_at hl 3 rfl) ?_
  refine lv_iload_n hx hb dL_law_1476 rfl (lv_at hl 0 rfl) ?_
  refine lv_iconst (v := 1) hx hb dL_law_1477 (by decide) ?_
  refine lv_iadd hx hb dL_law_1478 ?_
  refine ld_s (j := i + 1) C hX hbl hS hL (by omega) (nI_add i 1) dL_law_1479 ?_
  refine lv_aload_n hx hb dL_law_1480 rfl (lv_at hl 3 rfl) ?_
  refine lv_iload_n hx hb dL_law_1481 rfl (lv_at hl 0 rfl) ?_
  refine lv_iconst (v := 2) hx hb dL_law_1482 (by decide) ?_
  refine lv_iadd hx hb dL_law_1483 ?_
  refine ld_s (j := i + 2) C hX hbl hS hL (by omega) (nI_add i 2) dL_law_1484 ?_
  refine lv_aload_n hx hb dL_law_1485 rfl (lv_at hl 3 rfl) ?_
  refine lv_iload_n hx hb dL_law_1486 rfl (lv_at hl 0 rfl) ?_
  refine lv_iconst (v := 3) hx hb dL_law_1487 (by decide) ?_
  refine lv_iadd hx hb dL_law_1488 ?_
  refine ld_s (j := i + 3) C hX hbl hS hL (by omega) (nI_add i 3) dL_law_1489 ?_
  refine lv_aload_n hx hb dL_law_1490 rfl (lv_at hl 3 rfl) ?_
  refine lv_iload_n hx hb dL_law_1491 rfl (lv_at hl 0 rfl) ?_
  refine lv_iconst (v := 4) hx hb dL_law_1492 (by decide) ?_
  refine lv_iadd hx hb dL_law_1493 ?_
  refine ld_s (j := i + 4) C hX hbl hS hL (by omega) (nI_add i 4) dL_law_1494 ?_
  refine cw_pi (ad := ad) (b := 0) (n := 82) (M := M) (M' := M2) (ws := pool cy ae 100 21 R) (j := ad 0) (As := [.int (xs (i + 1)), .int (xs (i + 2)), .int (xs (i + 3)), .int (xs (i + 4))]) (rest := []) C hP hD hS (c_X5_sleepersBy e1) (recv_pool (b := 0) (n := 82) hK hP ⟨by decide, by decide⟩ (ent_5 rfl) (ci := 5) rfl) (gV wd_816 wd_817 wd_818 wd_64 wd_819) evL_X5_sleepersBy ⟨rfl, rfl⟩ ⟨(Nat.le_of_ble_eq_true rfl), (Nat.le_of_ble_eq_true rfl)⟩ hl.1 rfl (Nat.le_of_ble_eq_true rfl) dL_law_1495 hc (fun H locs hP hD hS => ?_)
  replace hP : va_P D vwCl (pool cy ae 100 21 R ++ pool cy ad 0 82 M2) H := hP.pm List.perm_append_comm
  replace hD : va_D (fun q => s.heap.size ≤ q) (pool cy ae 100 21 R ++ pool cy ad 0 82 M2) := hD.pm List.perm_append_comm
  refine lv_aload_n hx hb dL_law_1498 rfl (lv_at hl 1 rfl) ?_
  refine lv_aload_n hx hb dL_law_1499 rfl (lv_at hl 3 rfl) ?_
  refine lv_iload_n hx hb dL_law_1500 rfl (lv_at hl 0 rfl) ?_
  refine lv_iconst (v := 1) hx hb dL_law_1501 (by decide) ?_
  refine lv_iadd hx hb dL_law_1502 ?_
  refine ld_s (j := i + 1) C hX hbl hS hL (by omega) (nI_add i 1) dL_law_1503 ?_
  refine lv_aload_n hx hb dL_law_1504 rfl (lv_at hl 3 rfl) ?_
  refine lv_iload_n hx hb dL_law_1505 rfl (lv_at hl 0 rfl) ?_
  refine lv_iconst (v := 2) hx hb dL_law_1506 (by decide) ?_
  refine lv_iadd hx hb dL_law_1507 ?_
  refine ld_s (j := i + 2) C hX hbl hS hL (by omega) (nI_add i 2) dL_law_1508 ?_
  refine lv_aload_n hx hb dL_law_1509 rfl (lv_at hl 3 rfl) ?_
  refine lv_iload_n hx hb dL_law_1510 rfl (lv_at hl 0 rfl) ?_
  refine lv_iconst (v := 3) hx hb dL_law_1511 (by decide) ?_
  refine lv_iadd hx hb dL_law_1512 ?_
  refine ld_s (j := i + 3) C hX hbl hS hL (by omega) (nI_add i 3) dL_law_1513 ?_
  refine lv_aload_n hx hb dL_law_1514 rfl (lv_at hl 3 rfl) ?_
  refine lv_iload_n hx hb dL_law_1515 rfl (lv_at hl 0 rfl) ?_
  refine lv_iconst (v := 4) hx hb dL_law_1516 (by decide) ?_
  refine lv_iadd hx hb dL_law_1517 ?_
  refine ld_s (j := i + 4) C hX hbl hS hL (by omega) (nI_add i 4) dL_law_1518 ?_
  refine cw_pi (ad := ae) (b := 100) (n := 21) (M := R) (M' := R2) (ws := pool cy ad 0 82 M2) (j := ae 100) (As := [.int (xs (i + 1)), .int (xs (i + 2)), .int (xs (i + 3)), .int (xs (i + 4))]) (rest := [.int r]) C hP hD hS (c_X6_sleepersBy e2) (recv_pool (b := 100) (n := 21) hK hP ⟨by decide, by decide⟩ (ent_6 rfl) (ci := 6) rfl) (gV wd_1267 wd_1268 wd_1269 wd_75 wd_1270) evL_X6_sleepersBy ⟨rfl, rfl⟩ ⟨(Nat.le_of_ble_eq_true rfl), (Nat.le_of_ble_eq_true rfl)⟩ hl.1 rfl (Nat.le_of_ble_eq_true rfl) dL_law_1519 hc (fun H locs hP hD hS => ?_)
  refine lv_icmp_eq (tgt := 1560) hx hb dL_law_1522 (by decide) (fun _ => ?_) (fun z => absurd rfl z)
  exact kk M2 R2 H locs h2 (hP.pm List.perm_append_comm) (hD.pm List.perm_append_comm) hS

set_option maxHeartbeats 4000000 in
set_option maxRecDepth 100000 in
theorem lc_37 (C : CW p s m #[Value.ref b] meth c cL_law 4 RL D cy zz (fun q => s.heap.size ≤ q)) (hX : va_X b L xs s s.heap) (hbl : b < s.heap.size) (hL : L ≤ 3584) {i : Nat} (hi : i + 7 ≤ L) {ad ae : Nat → Nat} {M R : Mem} (h : Sim M R) (hc : cells ≤ room_1.cells ∧ slots ≤ room_1.slots) {H : Heap} {locs : List Loc} {ls : Array Slot} (hP : va_P D vwCl (pool cy ad 0 82 M ++ pool cy ae 100 21 R) H) (hD : va_D (fun q => s.heap.size ≤ q) (pool cy ad 0 82 M ++ pool cy ae 100 21 R)) (hS : va_S (fun q => s.heap.size ≤ q) s.heap H locs) (hl : lv_has ls 4 [(3, .int (nI i)), (2, .ref (ae 100)), (1, .ref (ad 0)), (0, .ref b)])
    (kk : ∀ (M R : Mem) (H : Heap) (locs : List Loc), Sim M R → va_P D vwCl (pool cy ad 0 82 M ++ pool cy ae 100 21 R) H → va_D (fun q => s.heap.size ≤ q) (pool cy ad 0 82 M ++ pool cy ae 100 21 R) → va_S (fun q => s.heap.size ≤ q) s.heap H locs → W p l e room_1 s m #[Value.ref b] below meth c H locs cells slots Q (F0 m 1560 ls [])) : W p l e room_1 s m #[Value.ref b] below meth c H locs cells slots Q (F0 m 1527 ls []) := by
  obtain ⟨hx, hb, hml, hown, hts, hlk, hK, hN2, hA, hX2⟩ := id C
  obtain ⟨r, e1, e2⟩ := st_taken (xs (i + 1)) (xs (i + 2)) h
  refine lv_aload_n hx hb dL_law_1527 rfl (lv_at hl 2 rfl) ?_
  refine lv_aload_n hx hb dL_law_1528 rfl (lv_at hl 3 rfl) ?_
  refine lv_iload_n hx hb dL_law_1529 rfl (lv_at hl 0 rfl) ?_
  refine lv_iconst (v := 1) hx hb dL_law_1530 (by decide) ?_
  refine lv_iadd hx hb dL_law_1531 ?_
  refine ld_s (j := i + 1) C hX hbl hS hL (by omega) (nI_add i 1) dL_law_1532 ?_
  refine lv_aload_n hx hb dL_law_1533 rfl (lv_at hl 3 rfl) ?_
  refine lv_iload_n hx hb dL_law_1534 rfl (lv_at hl 0 rfl) ?_
  refine lv_iconst (v := 2) hx hb dL_law_1535 (by decide) ?_
  refine lv_iadd hx hb dL_law_1536 ?_
  refine ld_s (j := i + 2) C hX hbl hS hL (by omega) (nI_add i 2) dL_law_1537 ?_
  refine cw_pi (ad := ad) (b := 0) (n := 82) (M := M) (M' := M) (ws := pool cy ae 100 21 R) (j := ad 0) (As := [.int (xs (i + 1)), .int (xs (i + 2))]) (rest := []) C hP hD hS (c_X5_taken e1) (recv_pool (b := 0) (n := 82) hK hP ⟨by decide, by decide⟩ (ent_5 rfl) (ci := 5) rfl) (gV wd_821 wd_822 wd_823 wd_64 wd_824) evL_X5_taken ⟨rfl, rfl⟩ ⟨(Nat.le_of_ble_eq_true rfl), (Nat.le_of_ble_eq_true rfl)⟩ hl.1 rfl (Nat.le_of_ble_eq_true rfl) dL_law_1538 hc (fun H locs hP hD hS => ?_)
  replace hP : va_P D vwCl (pool cy ae 100 21 R ++ pool cy ad 0 82 M) H := hP.pm List.perm_append_comm
  replace hD : va_D (fun q => s.heap.size ≤ q) (pool cy ae 100 21 R ++ pool cy ad 0 82 M) := hD.pm List.perm_append_comm
  refine lv_aload_n hx hb dL_law_1541 rfl (lv_at hl 1 rfl) ?_
  refine lv_aload_n hx hb dL_law_1542 rfl (lv_at hl 3 rfl) ?_
  refine lv_iload_n hx hb dL_law_1543 rfl (lv_at hl 0 rfl) ?_
  refine lv_iconst (v := 1) hx hb dL_law_1544 (by decide) ?_
  refine lv_iadd hx hb dL_law_1545 ?_
  refine ld_s (j := i + 1) C hX hbl hS hL (by omega) (nI_add i 1) dL_law_1546 ?_
  refine lv_aload_n hx hb dL_law_1547 rfl (lv_at hl 3 rfl) ?_
  refine lv_iload_n hx hb dL_law_1548 rfl (lv_at hl 0 rfl) ?_
  refine lv_iconst (v := 2) hx hb dL_law_1549 (by decide) ?_
  refine lv_iadd hx hb dL_law_1550 ?_
  refine ld_s (j := i + 2) C hX hbl hS hL (by omega) (nI_add i 2) dL_law_1551 ?_
  refine cw_pi (ad := ae) (b := 100) (n := 21) (M := R) (M' := R) (ws := pool cy ad 0 82 M) (j := ae 100) (As := [.int (xs (i + 1)), .int (xs (i + 2))]) (rest := [.int r]) C hP hD hS (c_X6_taken e2) (recv_pool (b := 100) (n := 21) hK hP ⟨by decide, by decide⟩ (ent_6 rfl) (ci := 6) rfl) (gV wd_1272 wd_1273 wd_1274 wd_75 wd_1275) evL_X6_taken ⟨rfl, rfl⟩ ⟨(Nat.le_of_ble_eq_true rfl), (Nat.le_of_ble_eq_true rfl)⟩ hl.1 rfl (Nat.le_of_ble_eq_true rfl) dL_law_1552 hc (fun H locs hP hD hS => ?_)
  refine lv_icmp_eq (tgt := 1560) hx hb dL_law_1555 (by decide) (fun _ => ?_) (fun z => absurd rfl z)
  exact kk M R H locs h (hP.pm List.perm_append_comm) (hD.pm List.perm_append_comm) hS

end LAW
