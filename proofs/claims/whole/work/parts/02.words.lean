/-- the tables' words that any call may pass on -/
def tb : List Cond := lw_tbl.filter goodWord
theorem tb_of {w : Cond} (h : w ∈ lw_tbl) (g : goodWord w = true) : w ∈ tb := List.mem_filter.mpr ⟨h, g⟩
theorem in_0 : ∀ w ∈ k2_sels lw_privs, w ∈ lw_tbl := fun _ h => List.mem_append_left _ h
theorem in_1 : ∀ w ∈ tables_1_1, w ∈ lw_tbl := fun _ h => List.mem_append_right _ (List.mem_append_left _ h)
theorem in_2 : ∀ w ∈ tables_1_2, w ∈ lw_tbl := fun _ h => List.mem_append_right _ (List.mem_append_right _ (List.mem_append_left _ h))
theorem in_3 : ∀ w ∈ tables_1_3, w ∈ lw_tbl := fun _ h => List.mem_append_right _ (List.mem_append_right _ (List.mem_append_right _ (List.mem_append_left _ h)))
theorem in_4 : ∀ w ∈ tables_1_4, w ∈ lw_tbl := fun _ h => List.mem_append_right _ (List.mem_append_right _ (List.mem_append_right _ (List.mem_append_right _ (List.mem_append_left _ h))))
theorem in_5 : ∀ w ∈ tables_1_5, w ∈ lw_tbl := fun _ h => List.mem_append_right _ (List.mem_append_right _ (List.mem_append_right _ (List.mem_append_right _ (List.mem_append_right _ (List.mem_append_left _ h)))))
theorem in_6 : ∀ w ∈ tables_1_6, w ∈ lw_tbl := fun _ h => List.mem_append_right _ (List.mem_append_right _ (List.mem_append_right _ (List.mem_append_right _ (List.mem_append_right _ (List.mem_append_right _ h)))))
theorem tb_good {w : Cond} (h : w ∈ tb) : (w.onTables && w.keeps) = true ∨ ∃ ty, w = .arrayClass ty := good_of_word (List.mem_filter.mp h).2
theorem tb_in {x : Cond} {ws : List Cond} (h : ∀ w ∈ ws, w ∈ tb) : GoodIn tb ws := fun w hw => ⟨h w hw, tb_good (h w hw)⟩
theorem tb_cons {w : Cond} (h : w ∈ tb) : ∀ v ∈ w :: tb, v ∈ tb := fun v hv => (List.mem_cons.mp hv).elim (fun e => e ▸ h) id
theorem gV {own C : String} {idx maxL : Nat} {y : MethodName} {c : ByteArray} {ret : Option FieldType} (h1 : Cond.methodLink own idx y ∈ tb) (h2 : Cond.instanceMethod y ∈ tb) (h3 : Cond.selects C y y ∈ tb) (h4 : Cond.initialized C ∈ tb) (h5 : Cond.code y c maxL ret ∈ tb) : GoodIn tb (wsV own idx C y (.code y c maxL ret :: tb)) := by
  refine tb_in (x := .code y c maxL ret) fun w hw => ?_
  unfold wsV at hw
  rcases List.mem_append.mp hw with h | h
  · simp only [List.mem_cons, List.not_mem_nil, or_false] at h
    rcases h with rfl | rfl | rfl | rfl <;> assumption
  · exact tb_cons h5 w h
theorem gS {own : String} {idx maxL : Nat} {y : MethodName} {c : ByteArray} {ret : Option FieldType} (h1 : Cond.methodLink own idx y ∈ tb) (h2 : Cond.static y ∈ tb) (h4 : Cond.initialized y.cls ∈ tb) (h5 : Cond.code y c maxL ret ∈ tb) : GoodIn tb (va_wsS own idx y (.code y c maxL ret :: tb)) := by
  refine tb_in (x := .code y c maxL ret) fun w hw => ?_
  unfold va_wsS at hw
  rcases List.mem_append.mp hw with h | h
  · simp only [List.mem_cons, List.not_mem_nil, or_false] at h
    rcases h with rfl | rfl | rfl <;> assumption
  · exact tb_cons h5 w h
theorem wd_0 : (Cond.selects RX0 yX0_advance yX0_advance) ∈ tb := tb_of (in_0 _ (List.mem_of_getElem? (i := 0) rfl)) rfl
theorem wd_1 : (Cond.selects RX0 yX0_byteAt yX0_byteAt) ∈ tb := tb_of (in_0 _ (List.mem_of_getElem? (i := 1) rfl)) rfl
theorem wd_2 : (Cond.selects RX0 yX0_takeWord yX0_takeWord) ∈ tb := tb_of (in_0 _ (List.mem_of_getElem? (i := 2) rfl)) rfl
theorem wd_3 : (Cond.selects RX0 yX0_isWord yX0_isWord) ∈ tb := tb_of (in_0 _ (List.mem_of_getElem? (i := 3) rfl)) rfl
theorem wd_4 : (Cond.selects RX0 yX0_takeNumber yX0_takeNumber) ∈ tb := tb_of (in_0 _ (List.mem_of_getElem? (i := 4) rfl)) rfl
theorem wd_5 : (Cond.selects RX0 yX0_readEither yX0_readEither) ∈ tb := tb_of (in_0 _ (List.mem_of_getElem? (i := 5) rfl)) rfl
theorem wd_6 : (Cond.selects RX0 yX0_readBoth yX0_readBoth) ∈ tb := tb_of (in_0 _ (List.mem_of_getElem? (i := 6) rfl)) rfl
theorem wd_7 : (Cond.selects RX0 yX0_readNot yX0_readNot) ∈ tb := tb_of (in_0 _ (List.mem_of_getElem? (i := 7) rfl)) rfl
theorem wd_8 : (Cond.selects RX0 yX0_readCompared yX0_readCompared) ∈ tb := tb_of (in_0 _ (List.mem_of_getElem? (i := 8) rfl)) rfl
theorem wd_9 : (Cond.selects RX0 yX0_readSum yX0_readSum) ∈ tb := tb_of (in_0 _ (List.mem_of_getElem? (i := 9) rfl)) rfl
theorem wd_10 : (Cond.selects RX0 yX0_readTerm yX0_readTerm) ∈ tb := tb_of (in_0 _ (List.mem_of_getElem? (i := 10) rfl)) rfl
theorem wd_11 : (Cond.selects RX0 yX0_readOne yX0_readOne) ∈ tb := tb_of (in_0 _ (List.mem_of_getElem? (i := 11) rfl)) rfl
theorem wd_12 : (Cond.selects RX5 yX5_feedOne yX5_feedOne) ∈ tb := tb_of (in_0 _ (List.mem_of_getElem? (i := 12) rfl)) rfl
theorem wd_13 : (Cond.selects RX5 yX5_theLaw yX5_theLaw) ∈ tb := tb_of (in_0 _ (List.mem_of_getElem? (i := 13) rfl)) rfl
theorem wd_14 : (Cond.selects RX5 yX5_textNumbered yX5_textNumbered) ∈ tb := tb_of (in_0 _ (List.mem_of_getElem? (i := 14) rfl)) rfl
theorem wd_15 : (Cond.selects RX2 yX2_goesAsBaby yX2_goesAsBaby) ∈ tb := tb_of (in_0 _ (List.mem_of_getElem? (i := 15) rfl)) rfl
theorem wd_16 : (Cond.selects RX5 yX5_sheetRefusal yX5_sheetRefusal) ∈ tb := tb_of (in_0 _ (List.mem_of_getElem? (i := 16) rfl)) rfl
theorem wd_17 : (Cond.selects RX2 yX2_goOn yX2_goOn) ∈ tb := tb_of (in_0 _ (List.mem_of_getElem? (i := 17) rfl)) rfl
theorem wd_18 : (Cond.selects RX2 yX2_beside yX2_beside) ∈ tb := tb_of (in_0 _ (List.mem_of_getElem? (i := 18) rfl)) rfl
theorem wd_19 : (Cond.selects RX5 yX5_passNights yX5_passNights) ∈ tb := tb_of (in_0 _ (List.mem_of_getElem? (i := 19) rfl)) rfl
theorem wd_20 : (Cond.selects RX5 yX5_trailOf yX5_trailOf) ∈ tb := tb_of (in_0 _ (List.mem_of_getElem? (i := 20) rfl)) rfl
theorem wd_21 : (Cond.selects RX5 yX5_beginThought yX5_beginThought) ∈ tb := tb_of (in_0 _ (List.mem_of_getElem? (i := 21) rfl)) rfl
theorem wd_22 : (Cond.selects RX5 yX5_walkNights yX5_walkNights) ∈ tb := tb_of (in_0 _ (List.mem_of_getElem? (i := 22) rfl)) rfl
theorem wd_23 : (Cond.selects RX5 yX5_farBehind yX5_farBehind) ∈ tb := tb_of (in_0 _ (List.mem_of_getElem? (i := 23) rfl)) rfl
theorem wd_24 : (Cond.selects RX5 yX5_toldOfRefusal yX5_toldOfRefusal) ∈ tb := tb_of (in_0 _ (List.mem_of_getElem? (i := 24) rfl)) rfl
theorem wd_25 : (Cond.selects RX5 yX5_toldRefusal yX5_toldRefusal) ∈ tb := tb_of (in_0 _ (List.mem_of_getElem? (i := 25) rfl)) rfl
theorem wd_26 : (Cond.selects RX5 yX5_firstOtherwise yX5_firstOtherwise) ∈ tb := tb_of (in_0 _ (List.mem_of_getElem? (i := 26) rfl)) rfl
theorem wd_27 : (Cond.selects RX5 yX5_bitsSo yX5_bitsSo) ∈ tb := tb_of (in_0 _ (List.mem_of_getElem? (i := 27) rfl)) rfl
theorem wd_28 : (Cond.selects RX5 yX5_passFloods yX5_passFloods) ∈ tb := tb_of (in_0 _ (List.mem_of_getElem? (i := 28) rfl)) rfl
theorem wd_29 : (Cond.selects RX6 yX6_next yX6_next) ∈ tb := tb_of (in_0 _ (List.mem_of_getElem? (i := 29) rfl)) rfl
theorem wd_30 : (Cond.selects RX6 yX6_wordFrom yX6_wordFrom) ∈ tb := tb_of (in_0 _ (List.mem_of_getElem? (i := 30) rfl)) rfl
theorem wd_31 : (Cond.selects RX6 yX6_eRead yX6_eRead) ∈ tb := tb_of (in_0 _ (List.mem_of_getElem? (i := 31) rfl)) rfl
theorem wd_32 : (Cond.selects RX6 yX6_puts yX6_puts) ∈ tb := tb_of (in_0 _ (List.mem_of_getElem? (i := 32) rfl)) rfl
theorem wd_33 : (Cond.selects RX6 yX6_unwinds yX6_unwinds) ∈ tb := tb_of (in_0 _ (List.mem_of_getElem? (i := 33) rfl)) rfl
theorem wd_34 : (Cond.selects RX6 yX6_opensOne yX6_opensOne) ∈ tb := tb_of (in_0 _ (List.mem_of_getElem? (i := 34) rfl)) rfl
theorem wd_35 : (Cond.selects RX6 yX6_holds yX6_holds) ∈ tb := tb_of (in_0 _ (List.mem_of_getElem? (i := 35) rfl)) rfl
theorem wd_36 : (Cond.selects RX6 yX6_signOf yX6_signOf) ∈ tb := tb_of (in_0 _ (List.mem_of_getElem? (i := 36) rfl)) rfl
theorem wd_37 : (Cond.selects RX6 yX6_between yX6_between) ∈ tb := tb_of (in_0 _ (List.mem_of_getElem? (i := 37) rfl)) rfl
theorem wd_38 : (Cond.selects RX6 yX6_isWet yX6_isWet) ∈ tb := tb_of (in_0 _ (List.mem_of_getElem? (i := 38) rfl)) rfl
theorem wd_39 : (Cond.selects RX6 yX6_isOne yX6_isOne) ∈ tb := tb_of (in_0 _ (List.mem_of_getElem? (i := 39) rfl)) rfl
theorem wd_40 : (Cond.selects RX6 yX6_asksOf yX6_asksOf) ∈ tb := tb_of (in_0 _ (List.mem_of_getElem? (i := 40) rfl)) rfl
theorem wd_41 : (Cond.selects RX6 yX6_says yX6_says) ∈ tb := tb_of (in_0 _ (List.mem_of_getElem? (i := 41) rfl)) rfl
theorem wd_42 : (Cond.selects RX6 yX6_goesOf yX6_goesOf) ∈ tb := tb_of (in_0 _ (List.mem_of_getElem? (i := 42) rfl)) rfl
theorem wd_43 : (Cond.selects RX6 yX6_mindsOf yX6_mindsOf) ∈ tb := tb_of (in_0 _ (List.mem_of_getElem? (i := 43) rfl)) rfl
theorem wd_44 : (Cond.selects RX6 yX6_wearsOf yX6_wearsOf) ∈ tb := tb_of (in_0 _ (List.mem_of_getElem? (i := 44) rfl)) rfl
theorem wd_45 : (Cond.selects RX6 yX6_nightOf yX6_nightOf) ∈ tb := tb_of (in_0 _ (List.mem_of_getElem? (i := 45) rfl)) rfl
theorem wd_46 : (Cond.selects RX6 yX6_stitches yX6_stitches) ∈ tb := tb_of (in_0 _ (List.mem_of_getElem? (i := 46) rfl)) rfl
theorem wd_47 : (Cond.selects RX6 yX6_keeps yX6_keeps) ∈ tb := tb_of (in_0 _ (List.mem_of_getElem? (i := 47) rfl)) rfl
theorem wd_48 : (Cond.selects RX6 yX6_goes yX6_goes) ∈ tb := tb_of (in_0 _ (List.mem_of_getElem? (i := 48) rfl)) rfl
theorem wd_49 : (Cond.selects RX6 yX6_toldBehind yX6_toldBehind) ∈ tb := tb_of (in_0 _ (List.mem_of_getElem? (i := 49) rfl)) rfl
theorem wd_50 : (Cond.selects RX6 yX6_mindsAll yX6_mindsAll) ∈ tb := tb_of (in_0 _ (List.mem_of_getElem? (i := 50) rfl)) rfl
theorem wd_51 : (Cond.selects RX6 yX6_twosNow yX6_twosNow) ∈ tb := tb_of (in_0 _ (List.mem_of_getElem? (i := 51) rfl)) rfl
theorem wd_52 : (Cond.selects RX6 yX6_lays yX6_lays) ∈ tb := tb_of (in_0 _ (List.mem_of_getElem? (i := 52) rfl)) rfl
theorem wd_53 : (Cond.selects RX6 yX6_tracked yX6_tracked) ∈ tb := tb_of (in_0 _ (List.mem_of_getElem? (i := 53) rfl)) rfl
theorem wd_54 : (Cond.selects RX6 yX6_onEnd yX6_onEnd) ∈ tb := tb_of (in_0 _ (List.mem_of_getElem? (i := 54) rfl)) rfl
theorem wd_55 : (Cond.selects RX6 yX6_turnedBy yX6_turnedBy) ∈ tb := tb_of (in_0 _ (List.mem_of_getElem? (i := 55) rfl)) rfl
theorem wd_56 : (Cond.selects RX6 yX6_isSoTurned yX6_isSoTurned) ∈ tb := tb_of (in_0 _ (List.mem_of_getElem? (i := 56) rfl)) rfl
theorem wd_57 : (Cond.selects RX6 yX6_farBehind yX6_farBehind) ∈ tb := tb_of (in_0 _ (List.mem_of_getElem? (i := 57) rfl)) rfl
theorem wd_58 : (Cond.selects RX6 yX6_milesBehind yX6_milesBehind) ∈ tb := tb_of (in_0 _ (List.mem_of_getElem? (i := 58) rfl)) rfl
theorem wd_59 : (Cond.selects RX6 yX6_toldWrong yX6_toldWrong) ∈ tb := tb_of (in_0 _ (List.mem_of_getElem? (i := 59) rfl)) rfl
theorem wd_60 : (Cond.selects RX6 yX6_sheetWrong yX6_sheetWrong) ∈ tb := tb_of (in_0 _ (List.mem_of_getElem? (i := 60) rfl)) rfl
theorem wd_61 : (Cond.selects RX6 yX6_unlike yX6_unlike) ∈ tb := tb_of (in_0 _ (List.mem_of_getElem? (i := 61) rfl)) rfl
theorem wd_62 : (Cond.selects RX6 yX6_floods yX6_floods) ∈ tb := tb_of (in_0 _ (List.mem_of_getElem? (i := 62) rfl)) rfl
theorem wd_63 : (Cond.initialized "BedsocksKeepRoadsLaw") ∈ tb := tb_of (in_1 _ (List.mem_of_getElem? (i := 0) rfl)) rfl
theorem wd_64 : (Cond.initialized "BedsocksKeepRoads") ∈ tb := tb_of (in_1 _ (List.mem_of_getElem? (i := 1) rfl)) rfl
theorem wd_65 : (Cond.initialized "BedsocksKeepRoads$World") ∈ tb := tb_of (in_1 _ (List.mem_of_getElem? (i := 2) rfl)) rfl
theorem wd_66 : (Cond.initialized "BedsocksKeepRoads$Sleeper") ∈ tb := tb_of (in_1 _ (List.mem_of_getElem? (i := 3) rfl)) rfl
theorem wd_67 : (Cond.initialized "BedsocksKeepRoads$Text") ∈ tb := tb_of (in_1 _ (List.mem_of_getElem? (i := 4) rfl)) rfl
theorem wd_68 : (Cond.initialized "BedsocksKeepRoads$Sheet") ∈ tb := tb_of (in_1 _ (List.mem_of_getElem? (i := 5) rfl)) rfl
theorem wd_69 : (Cond.initialized "java/lang/String") ∈ tb := tb_of (in_1 _ (List.mem_of_getElem? (i := 6) rfl)) rfl
theorem wd_70 : (Cond.initialized "java/lang/Math") ∈ tb := tb_of (in_1 _ (List.mem_of_getElem? (i := 7) rfl)) rfl
theorem wd_71 : (Cond.initialized "java/lang/StringLatin1") ∈ tb := tb_of (in_1 _ (List.mem_of_getElem? (i := 8) rfl)) rfl
theorem wd_72 : (Cond.initialized "jdk/internal/util/Preconditions") ∈ tb := tb_of (in_1 _ (List.mem_of_getElem? (i := 9) rfl)) rfl
theorem wd_73 : (Cond.initialized "java/lang/StringUTF16") ∈ tb := tb_of (in_1 _ (List.mem_of_getElem? (i := 10) rfl)) rfl
theorem wd_74 : (Cond.initialized "BedsocksKeepRoads$Reader") ∈ tb := tb_of (in_1 _ (List.mem_of_getElem? (i := 11) rfl)) rfl
theorem wd_75 : (Cond.initialized "BedsocksKeepRoadsModel") ∈ tb := tb_of (in_1 _ (List.mem_of_getElem? (i := 12) rfl)) rfl
theorem wd_76 : (Cond.initialized "java/lang/Long") ∈ tb := tb_of (in_1 _ (List.mem_of_getElem? (i := 13) rfl)) rfl
theorem wd_77 : (Cond.initialized "java/lang/System") ∈ tb := tb_of (in_1 _ (List.mem_of_getElem? (i := 14) rfl)) rfl
theorem wd_78 : (Cond.initialized "java/util/Arrays") ∈ tb := tb_of (in_1 _ (List.mem_of_getElem? (i := 15) rfl)) rfl
theorem wd_79 : (Cond.classLink RL 7 RX5) ∈ tb := tb_of (in_1 _ (List.mem_of_getElem? (i := 16) rfl)) rfl
theorem wd_80 : (Cond.instantiable RX5 11) ∈ tb := tb_of (in_1 _ (List.mem_of_getElem? (i := 17) rfl)) rfl
theorem wd_81 : (Cond.methodLink RL 9 yX5_init) ∈ tb := tb_of (in_1 _ (List.mem_of_getElem? (i := 18) rfl)) rfl
theorem wd_82 : (Cond.instanceMethod yX5_init) ∈ tb := tb_of (in_1 _ (List.mem_of_getElem? (i := 19) rfl)) rfl
theorem wd_83 : (Cond.code yX5_init cX5_init 4 none) ∈ tb := tb_of (in_1 _ (List.mem_of_getElem? (i := 20) rfl)) rfl
theorem wd_84 : (Cond.methodLink RX5 1 objectInit) ∈ tb := tb_of (in_1 _ (List.mem_of_getElem? (i := 21) rfl)) rfl
theorem wd_85 : (Cond.instanceMethod objectInit) ∈ tb := tb_of (in_1 _ (List.mem_of_getElem? (i := 22) rfl)) rfl
theorem wd_86 : (Cond.code objectInit object_method_1_code 1 none) ∈ tb := tb_of (in_1 _ (List.mem_of_getElem? (i := 23) rfl)) rfl
theorem wd_87 : (Cond.classLink RX5 7 RX4) ∈ tb := tb_of (in_1 _ (List.mem_of_getElem? (i := 24) rfl)) rfl
theorem wd_88 : (Cond.instantiable RX4 5) ∈ tb := tb_of (in_1 _ (List.mem_of_getElem? (i := 25) rfl)) rfl
theorem wd_89 : (Cond.methodLink RX5 9 yX4_init) ∈ tb := tb_of (in_1 _ (List.mem_of_getElem? (i := 26) rfl)) rfl
theorem wd_90 : (Cond.instanceMethod yX4_init) ∈ tb := tb_of (in_1 _ (List.mem_of_getElem? (i := 27) rfl)) rfl
theorem wd_91 : (Cond.code yX4_init cX4_init 2 none) ∈ tb := tb_of (in_1 _ (List.mem_of_getElem? (i := 28) rfl)) rfl
theorem wd_92 : (Cond.methodLink RX4 3 objectInit) ∈ tb := tb_of (in_1 _ (List.mem_of_getElem? (i := 29) rfl)) rfl
theorem wd_93 : (Cond.classLink RX4 9 RX2) ∈ tb := tb_of (in_1 _ (List.mem_of_getElem? (i := 30) rfl)) rfl
theorem wd_95 : (Cond.instantiable RX2 10) ∈ tb := tb_of (in_1 _ (List.mem_of_getElem? (i := 32) rfl)) rfl
theorem wd_97 : (Cond.instanceMethod yX2_init) ∈ tb := tb_of (in_1 _ (List.mem_of_getElem? (i := 34) rfl)) rfl
theorem wd_98 : (Cond.code yX2_init cX2_init 1 none) ∈ tb := tb_of (in_1 _ (List.mem_of_getElem? (i := 35) rfl)) rfl
theorem wd_99 : (Cond.methodLink RX2 3 objectInit) ∈ tb := tb_of (in_1 _ (List.mem_of_getElem? (i := 36) rfl)) rfl
theorem wd_100 : (Cond.fieldLink RX2 22 "BedsocksKeepRoads$Sleeper" "kind" "I") ∈ tb := tb_of (in_1 _ (List.mem_of_getElem? (i := 37) rfl)) rfl
theorem wd_101 : (Cond.fieldLink RX5 153 "BedsocksKeepRoads$Sleeper" "kind" "I") ∈ tb := tb_of (in_1 _ (List.mem_of_getElem? (i := 38) rfl)) rfl
theorem wd_102 : (Cond.fieldLink RX2 25 "BedsocksKeepRoads$Sleeper" "more" "I") ∈ tb := tb_of (in_1 _ (List.mem_of_getElem? (i := 39) rfl)) rfl
theorem wd_103 : (Cond.fieldLink RX5 156 "BedsocksKeepRoads$Sleeper" "more" "I") ∈ tb := tb_of (in_1 _ (List.mem_of_getElem? (i := 40) rfl)) rfl
theorem wd_104 : (Cond.fieldLink RX2 28 "BedsocksKeepRoads$Sleeper" "cell" "I") ∈ tb := tb_of (in_1 _ (List.mem_of_getElem? (i := 41) rfl)) rfl
theorem wd_105 : (Cond.fieldLink RX4 48 "BedsocksKeepRoads$Sleeper" "cell" "I") ∈ tb := tb_of (in_1 _ (List.mem_of_getElem? (i := 42) rfl)) rfl
theorem wd_106 : (Cond.fieldLink RX5 207 "BedsocksKeepRoads$Sleeper" "cell" "I") ∈ tb := tb_of (in_1 _ (List.mem_of_getElem? (i := 43) rfl)) rfl
theorem wd_107 : (Cond.fieldLink RX2 31 "BedsocksKeepRoads$Sleeper" "way" "I") ∈ tb := tb_of (in_1 _ (List.mem_of_getElem? (i := 44) rfl)) rfl
theorem wd_108 : (Cond.fieldLink RX5 239 "BedsocksKeepRoads$Sleeper" "way" "I") ∈ tb := tb_of (in_1 _ (List.mem_of_getElem? (i := 45) rfl)) rfl
theorem wd_109 : (Cond.fieldLink RX2 34 "BedsocksKeepRoads$Sleeper" "next" "I") ∈ tb := tb_of (in_1 _ (List.mem_of_getElem? (i := 46) rfl)) rfl
theorem wd_110 : (Cond.fieldLink RX5 337 "BedsocksKeepRoads$Sleeper" "next" "I") ∈ tb := tb_of (in_1 _ (List.mem_of_getElem? (i := 47) rfl)) rfl
theorem wd_111 : (Cond.fieldLink RX2 37 "BedsocksKeepRoads$Sleeper" "wet" "I") ∈ tb := tb_of (in_1 _ (List.mem_of_getElem? (i := 48) rfl)) rfl
theorem wd_112 : (Cond.fieldLink RX5 210 "BedsocksKeepRoads$Sleeper" "wet" "I") ∈ tb := tb_of (in_1 _ (List.mem_of_getElem? (i := 49) rfl)) rfl
theorem wd_113 : (Cond.fieldLink RX2 9 "BedsocksKeepRoads$Sleeper" "wool" "I") ∈ tb := tb_of (in_1 _ (List.mem_of_getElem? (i := 50) rfl)) rfl
theorem wd_114 : (Cond.fieldLink RX5 310 "BedsocksKeepRoads$Sleeper" "wool" "I") ∈ tb := tb_of (in_1 _ (List.mem_of_getElem? (i := 51) rfl)) rfl
theorem wd_115 : (Cond.fieldLink RX2 15 "BedsocksKeepRoads$Sleeper" "size" "I") ∈ tb := tb_of (in_1 _ (List.mem_of_getElem? (i := 52) rfl)) rfl
theorem wd_116 : (Cond.fieldLink RX5 170 "BedsocksKeepRoads$Sleeper" "size" "I") ∈ tb := tb_of (in_1 _ (List.mem_of_getElem? (i := 53) rfl)) rfl
theorem wd_117 : (Cond.fieldLink RX2 98 "BedsocksKeepRoads$Sleeper" "trail" "J") ∈ tb := tb_of (in_1 _ (List.mem_of_getElem? (i := 54) rfl)) rfl
theorem wd_118 : (Cond.fieldLink RX5 331 "BedsocksKeepRoads$Sleeper" "trail" "J") ∈ tb := tb_of (in_1 _ (List.mem_of_getElem? (i := 55) rfl)) rfl
theorem wd_119 : (Cond.fieldLink RX2 18 "BedsocksKeepRoads$Sleeper" "sock" "[I") ∈ tb := tb_of (in_1 _ (List.mem_of_getElem? (i := 56) rfl)) rfl
theorem wd_141 : (Cond.arrayClass .int) ∈ tb := tb_of (in_1 _ (List.mem_of_getElem? (i := 78) rfl)) rfl
theorem wd_142 : (Cond.fieldLink RX4 18 "BedsocksKeepRoads$World" "water" "J") ∈ tb := tb_of (in_1 _ (List.mem_of_getElem? (i := 79) rfl)) rfl
theorem wd_143 : (Cond.fieldLink RX5 87 "BedsocksKeepRoads$World" "water" "J") ∈ tb := tb_of (in_1 _ (List.mem_of_getElem? (i := 80) rfl)) rfl
theorem wd_144 : (Cond.fieldLink RX4 22 "BedsocksKeepRoads$World" "night" "I") ∈ tb := tb_of (in_1 _ (List.mem_of_getElem? (i := 81) rfl)) rfl
theorem wd_145 : (Cond.fieldLink RX5 97 "BedsocksKeepRoads$World" "night" "I") ∈ tb := tb_of (in_1 _ (List.mem_of_getElem? (i := 82) rfl)) rfl
theorem wd_146 : (Cond.fieldLink RX4 26 "BedsocksKeepRoads$World" "law" "I") ∈ tb := tb_of (in_1 _ (List.mem_of_getElem? (i := 83) rfl)) rfl
theorem wd_147 : (Cond.fieldLink RX5 100 "BedsocksKeepRoads$World" "law" "I") ∈ tb := tb_of (in_1 _ (List.mem_of_getElem? (i := 84) rfl)) rfl
theorem wd_148 : (Cond.fieldLink RX4 29 "BedsocksKeepRoads$World" "count" "I") ∈ tb := tb_of (in_1 _ (List.mem_of_getElem? (i := 85) rfl)) rfl
theorem wd_149 : (Cond.fieldLink RX5 84 "BedsocksKeepRoads$World" "count" "I") ∈ tb := tb_of (in_1 _ (List.mem_of_getElem? (i := 86) rfl)) rfl
theorem wd_150 : (Cond.fieldLink RX4 11 "BedsocksKeepRoads$World" "all" "[LBedsocksKeepRoads$Sleeper;") ∈ tb := tb_of (in_1 _ (List.mem_of_getElem? (i := 87) rfl)) rfl
theorem wd_162 : (Cond.classLink RX5 22 RX2) ∈ tb := tb_of (in_1 _ (List.mem_of_getElem? (i := 99) rfl)) rfl
theorem wd_164 : (Cond.classLink RX5 29 RX3) ∈ tb := tb_of (in_1 _ (List.mem_of_getElem? (i := 101) rfl)) rfl
theorem wd_166 : (Cond.classLink RX5 39 RX1) ∈ tb := tb_of (in_1 _ (List.mem_of_getElem? (i := 103) rfl)) rfl
theorem wd_168 : (Cond.instantiable RX3 5) ∈ tb := tb_of (in_1 _ (List.mem_of_getElem? (i := 105) rfl)) rfl
theorem wd_169 : (Cond.methodLink RX5 45 yX3_init) ∈ tb := tb_of (in_1 _ (List.mem_of_getElem? (i := 106) rfl)) rfl
theorem wd_170 : (Cond.instanceMethod yX3_init) ∈ tb := tb_of (in_1 _ (List.mem_of_getElem? (i := 107) rfl)) rfl
theorem wd_171 : (Cond.code yX3_init cX3_init 2 none) ∈ tb := tb_of (in_1 _ (List.mem_of_getElem? (i := 108) rfl)) rfl
theorem wd_172 : (Cond.methodLink RX3 3 objectInit) ∈ tb := tb_of (in_1 _ (List.mem_of_getElem? (i := 109) rfl)) rfl
theorem wd_173 : (Cond.fieldLink RX3 9 "BedsocksKeepRoads$Text" "deeds" "[I") ∈ tb := tb_of (in_1 _ (List.mem_of_getElem? (i := 110) rfl)) rfl
theorem wd_174 : (Cond.fieldLink RX3 15 "BedsocksKeepRoads$Text" "worths" "[I") ∈ tb := tb_of (in_1 _ (List.mem_of_getElem? (i := 111) rfl)) rfl
theorem wd_175 : (Cond.fieldLink RX3 18 "BedsocksKeepRoads$Text" "ends" "[I") ∈ tb := tb_of (in_1 _ (List.mem_of_getElem? (i := 112) rfl)) rfl
theorem wd_176 : (Cond.fieldLink RX0 48 "BedsocksKeepRoads$Text" "ends" "[I") ∈ tb := tb_of (in_1 _ (List.mem_of_getElem? (i := 113) rfl)) rfl
theorem wd_177 : (Cond.fieldLink RX3 21 "BedsocksKeepRoads$Text" "stack" "[I") ∈ tb := tb_of (in_1 _ (List.mem_of_getElem? (i := 114) rfl)) rfl
theorem wd_178 : (Cond.fieldLink RX3 24 "BedsocksKeepRoads$Text" "size" "I") ∈ tb := tb_of (in_1 _ (List.mem_of_getElem? (i := 115) rfl)) rfl
theorem wd_179 : (Cond.fieldLink RX0 32 "BedsocksKeepRoads$Text" "size" "I") ∈ tb := tb_of (in_1 _ (List.mem_of_getElem? (i := 116) rfl)) rfl
theorem wd_191 : (Cond.instantiable RX1 3) ∈ tb := tb_of (in_1 _ (List.mem_of_getElem? (i := 128) rfl)) rfl
theorem wd_193 : (Cond.instanceMethod yX1_init) ∈ tb := tb_of (in_1 _ (List.mem_of_getElem? (i := 130) rfl)) rfl
theorem wd_194 : (Cond.code yX1_init cX1_init 1 none) ∈ tb := tb_of (in_1 _ (List.mem_of_getElem? (i := 131) rfl)) rfl
theorem wd_195 : (Cond.methodLink RX1 3 objectInit) ∈ tb := tb_of (in_1 _ (List.mem_of_getElem? (i := 132) rfl)) rfl
theorem wd_196 : (Cond.fieldLink RX1 11 "BedsocksKeepRoads$Sheet" "sort" "I") ∈ tb := tb_of (in_1 _ (List.mem_of_getElem? (i := 133) rfl)) rfl
theorem wd_197 : (Cond.fieldLink RX5 288 "BedsocksKeepRoads$Sheet" "sort" "I") ∈ tb := tb_of (in_1 _ (List.mem_of_getElem? (i := 134) rfl)) rfl
theorem wd_198 : (Cond.fieldLink RX1 28 "BedsocksKeepRoads$Sheet" "size" "I") ∈ tb := tb_of (in_1 _ (List.mem_of_getElem? (i := 135) rfl)) rfl
theorem wd_199 : (Cond.fieldLink RX2 50 "BedsocksKeepRoads$Sheet" "size" "I") ∈ tb := tb_of (in_1 _ (List.mem_of_getElem? (i := 136) rfl)) rfl
theorem wd_200 : (Cond.fieldLink RX5 323 "BedsocksKeepRoads$Sheet" "size" "I") ∈ tb := tb_of (in_1 _ (List.mem_of_getElem? (i := 137) rfl)) rfl
theorem wd_201 : (Cond.fieldLink RX1 15 "BedsocksKeepRoads$Sheet" "numbers" "[I") ∈ tb := tb_of (in_1 _ (List.mem_of_getElem? (i := 138) rfl)) rfl
theorem wd_202 : (Cond.fieldLink RX5 295 "BedsocksKeepRoads$Sheet" "numbers" "[I") ∈ tb := tb_of (in_1 _ (List.mem_of_getElem? (i := 139) rfl)) rfl
theorem wd_211 : (Cond.methodLink RX5 51 yJ0_length_8abf5) ∈ tb := tb_of (in_1 _ (List.mem_of_getElem? (i := 148) rfl)) rfl
theorem wd_212 : (Cond.instanceMethod yJ0_length_8abf5) ∈ tb := tb_of (in_1 _ (List.mem_of_getElem? (i := 149) rfl)) rfl
theorem wd_213 : (Cond.selects "java/lang/String" yJ0_length_8abf5 yJ0_length_8abf5) ∈ tb := tb_of (in_1 _ (List.mem_of_getElem? (i := 150) rfl)) rfl
theorem wd_214 : (Cond.code yJ0_length_8abf5 cJ0_length_8abf5 1 (some .int)) ∈ tb := tb_of (in_1 _ (List.mem_of_getElem? (i := 151) rfl)) rfl
theorem wd_215 : (Cond.methodLink "java/lang/String" 335 yJ0_coder_7d493) ∈ tb := tb_of (in_1 _ (List.mem_of_getElem? (i := 152) rfl)) rfl
theorem wd_216 : (Cond.instanceMethod yJ0_coder_7d493) ∈ tb := tb_of (in_1 _ (List.mem_of_getElem? (i := 153) rfl)) rfl
theorem wd_217 : (Cond.selects "java/lang/String" yJ0_coder_7d493 yJ0_coder_7d493) ∈ tb := tb_of (in_1 _ (List.mem_of_getElem? (i := 154) rfl)) rfl
theorem wd_218 : (Cond.code yJ0_coder_7d493 cJ0_coder_7d493 1 (some .byte)) ∈ tb := tb_of (in_1 _ (List.mem_of_getElem? (i := 155) rfl)) rfl
theorem wd_219 : (Cond.fieldLink "java/lang/String" 38 "java/lang/String" "COMPACT_STRINGS" "Z") ∈ tb := tb_of (in_1 _ (List.mem_of_getElem? (i := 156) rfl)) rfl
theorem wd_221 : (Cond.methodLink RX5 57 Lib.Math.min.name) ∈ tb := tb_of (in_1 _ (List.mem_of_getElem? (i := 158) rfl)) rfl
theorem wd_222 : (Cond.static Lib.Math.min.name) ∈ tb := tb_of (in_1 _ (List.mem_of_getElem? (i := 159) rfl)) rfl
theorem wd_223 : (Cond.code Lib.Math.min.name cJ9_min_7cf53 2 (some .int)) ∈ tb := tb_of (in_1 _ (List.mem_of_getElem? (i := 160) rfl)) rfl
theorem wd_224 : (Cond.methodLink RX5 63 yJ0_charAt_5068e) ∈ tb := tb_of (in_1 _ (List.mem_of_getElem? (i := 161) rfl)) rfl
theorem wd_225 : (Cond.instanceMethod yJ0_charAt_5068e) ∈ tb := tb_of (in_1 _ (List.mem_of_getElem? (i := 162) rfl)) rfl
theorem wd_226 : (Cond.selects "java/lang/String" yJ0_charAt_5068e yJ0_charAt_5068e) ∈ tb := tb_of (in_1 _ (List.mem_of_getElem? (i := 163) rfl)) rfl
theorem wd_227 : (Cond.code yJ0_charAt_5068e cJ0_charAt_5068e 2 (some .char)) ∈ tb := tb_of (in_1 _ (List.mem_of_getElem? (i := 164) rfl)) rfl
theorem wd_228 : (Cond.methodLink "java/lang/String" 492 yJ0_isLatin1_aae02) ∈ tb := tb_of (in_1 _ (List.mem_of_getElem? (i := 165) rfl)) rfl
theorem wd_229 : (Cond.instanceMethod yJ0_isLatin1_aae02) ∈ tb := tb_of (in_1 _ (List.mem_of_getElem? (i := 166) rfl)) rfl
theorem wd_230 : (Cond.selects "java/lang/String" yJ0_isLatin1_aae02 yJ0_isLatin1_aae02) ∈ tb := tb_of (in_1 _ (List.mem_of_getElem? (i := 167) rfl)) rfl
theorem wd_231 : (Cond.code yJ0_isLatin1_aae02 cJ0_isLatin1_aae02 1 (some .boolean)) ∈ tb := tb_of (in_1 _ (List.mem_of_getElem? (i := 168) rfl)) rfl
theorem wd_232 : (Cond.methodLink "java/lang/String" 495 yJ1_charAt_3b067) ∈ tb := tb_of (in_1 _ (List.mem_of_getElem? (i := 169) rfl)) rfl
theorem wd_233 : (Cond.static yJ1_charAt_3b067) ∈ tb := tb_of (in_1 _ (List.mem_of_getElem? (i := 170) rfl)) rfl
theorem wd_234 : (Cond.code yJ1_charAt_3b067 cJ1_charAt_3b067 2 (some .char)) ∈ tb := tb_of (in_1 _ (List.mem_of_getElem? (i := 171) rfl)) rfl
theorem wd_235 : (Cond.methodLink "java/lang/StringLatin1" 9 yJ0_checkIndex_df160) ∈ tb := tb_of (in_1 _ (List.mem_of_getElem? (i := 172) rfl)) rfl
theorem wd_236 : (Cond.static yJ0_checkIndex_df160) ∈ tb := tb_of (in_1 _ (List.mem_of_getElem? (i := 173) rfl)) rfl
theorem wd_237 : (Cond.code yJ0_checkIndex_df160 cJ0_checkIndex_df160 2 none) ∈ tb := tb_of (in_1 _ (List.mem_of_getElem? (i := 174) rfl)) rfl
theorem wd_238 : (Cond.fieldLink "java/lang/String" 1053 "jdk/internal/util/Preconditions" "SIOOBE_FORMATTER" "Ljava/util/function/BiFunction;") ∈ tb := tb_of (in_1 _ (List.mem_of_getElem? (i := 175) rfl)) rfl
theorem wd_240 : (Cond.methodLink "java/lang/String" 1059 yJ3_checkIndex_8e157) ∈ tb := tb_of (in_1 _ (List.mem_of_getElem? (i := 177) rfl)) rfl
theorem wd_241 : (Cond.static yJ3_checkIndex_8e157) ∈ tb := tb_of (in_1 _ (List.mem_of_getElem? (i := 178) rfl)) rfl
theorem wd_242 : (Cond.code yJ3_checkIndex_8e157 cJ3_checkIndex_8e157 3 (some .int)) ∈ tb := tb_of (in_1 _ (List.mem_of_getElem? (i := 179) rfl)) rfl
theorem wd_243 : (Cond.methodLink "java/lang/String" 498 yJ2_charAt_3b067) ∈ tb := tb_of (in_1 _ (List.mem_of_getElem? (i := 180) rfl)) rfl
theorem wd_244 : (Cond.static yJ2_charAt_3b067) ∈ tb := tb_of (in_1 _ (List.mem_of_getElem? (i := 181) rfl)) rfl
theorem wd_245 : (Cond.code yJ2_charAt_3b067 cJ2_charAt_3b067 2 (some .char)) ∈ tb := tb_of (in_1 _ (List.mem_of_getElem? (i := 182) rfl)) rfl
theorem wd_246 : (Cond.methodLink "java/lang/StringUTF16" 67 yJ2_checkIndex_2214a) ∈ tb := tb_of (in_1 _ (List.mem_of_getElem? (i := 183) rfl)) rfl
theorem wd_247 : (Cond.static yJ2_checkIndex_2214a) ∈ tb := tb_of (in_1 _ (List.mem_of_getElem? (i := 184) rfl)) rfl
theorem wd_248 : (Cond.code yJ2_checkIndex_2214a cJ2_checkIndex_2214a 2 none) ∈ tb := tb_of (in_1 _ (List.mem_of_getElem? (i := 185) rfl)) rfl
theorem wd_249 : (Cond.methodLink "java/lang/StringUTF16" 48 yJ2_length_9d52b) ∈ tb := tb_of (in_1 _ (List.mem_of_getElem? (i := 186) rfl)) rfl
theorem wd_250 : (Cond.static yJ2_length_9d52b) ∈ tb := tb_of (in_1 _ (List.mem_of_getElem? (i := 187) rfl)) rfl
theorem wd_251 : (Cond.code yJ2_length_9d52b cJ2_length_9d52b 1 (some .int)) ∈ tb := tb_of (in_1 _ (List.mem_of_getElem? (i := 188) rfl)) rfl
theorem wd_252 : (Cond.methodLink "java/lang/StringUTF16" 414 yJ0_checkIndex_df160) ∈ tb := tb_of (in_1 _ (List.mem_of_getElem? (i := 189) rfl)) rfl
theorem wd_253 : (Cond.methodLink "java/lang/StringUTF16" 71 yJ2_getChar_3b067) ∈ tb := tb_of (in_1 _ (List.mem_of_getElem? (i := 190) rfl)) rfl
theorem wd_254 : (Cond.static yJ2_getChar_3b067) ∈ tb := tb_of (in_1 _ (List.mem_of_getElem? (i := 191) rfl)) rfl
theorem wd_255 : (Cond.code yJ2_getChar_3b067 cJ2_getChar_3b067 2 (some .char)) ∈ tb := tb_of (in_1 _ (List.mem_of_getElem? (i := 192) rfl)) rfl
theorem wd_256 : (Cond.fieldLink "java/lang/StringUTF16" 44 "java/lang/StringUTF16" "$assertionsDisabled" "Z") ∈ tb := tb_of (in_1 _ (List.mem_of_getElem? (i := 193) rfl)) rfl
theorem wd_258 : (Cond.fieldLink "java/lang/StringUTF16" 59 "java/lang/StringUTF16" "HI_BYTE_SHIFT" "I") ∈ tb := tb_of (in_1 _ (List.mem_of_getElem? (i := 195) rfl)) rfl
theorem wd_260 : (Cond.fieldLink "java/lang/StringUTF16" 63 "java/lang/StringUTF16" "LO_BYTE_SHIFT" "I") ∈ tb := tb_of (in_1 _ (List.mem_of_getElem? (i := 197) rfl)) rfl
theorem wd_262 : (Cond.classLink RX5 67 RX0) ∈ tb := tb_of (in_1 _ (List.mem_of_getElem? (i := 199) rfl)) rfl
theorem wd_263 : (Cond.instantiable RX0 7) ∈ tb := tb_of (in_1 _ (List.mem_of_getElem? (i := 200) rfl)) rfl
theorem wd_264 : (Cond.methodLink RX5 69 yX0_init) ∈ tb := tb_of (in_1 _ (List.mem_of_getElem? (i := 201) rfl)) rfl
theorem wd_265 : (Cond.instanceMethod yX0_init) ∈ tb := tb_of (in_1 _ (List.mem_of_getElem? (i := 202) rfl)) rfl
theorem wd_266 : (Cond.code yX0_init cX0_init 3 none) ∈ tb := tb_of (in_1 _ (List.mem_of_getElem? (i := 203) rfl)) rfl
theorem wd_267 : (Cond.methodLink RX0 3 objectInit) ∈ tb := tb_of (in_1 _ (List.mem_of_getElem? (i := 204) rfl)) rfl
theorem wd_268 : (Cond.fieldLink RX0 9 "BedsocksKeepRoads$Reader" "bytes" "[I") ∈ tb := tb_of (in_1 _ (List.mem_of_getElem? (i := 205) rfl)) rfl
theorem wd_269 : (Cond.fieldLink RX0 25 "BedsocksKeepRoads$Reader" "size" "I") ∈ tb := tb_of (in_1 _ (List.mem_of_getElem? (i := 206) rfl)) rfl
theorem wd_270 : (Cond.fieldLink RX0 29 "BedsocksKeepRoads$Reader" "at" "I") ∈ tb := tb_of (in_1 _ (List.mem_of_getElem? (i := 207) rfl)) rfl
theorem wd_271 : (Cond.fieldLink RX0 41 "BedsocksKeepRoads$Reader" "start" "I") ∈ tb := tb_of (in_1 _ (List.mem_of_getElem? (i := 208) rfl)) rfl
theorem wd_272 : (Cond.fieldLink RX0 38 "BedsocksKeepRoads$Reader" "token" "I") ∈ tb := tb_of (in_1 _ (List.mem_of_getElem? (i := 209) rfl)) rfl
theorem wd_273 : (Cond.fieldLink RX0 73 "BedsocksKeepRoads$Reader" "worth" "I") ∈ tb := tb_of (in_1 _ (List.mem_of_getElem? (i := 210) rfl)) rfl
theorem wd_274 : (Cond.fieldLink RX0 15 "BedsocksKeepRoads$Reader" "into" "LBedsocksKeepRoads$Text;") ∈ tb := tb_of (in_1 _ (List.mem_of_getElem? (i := 211) rfl)) rfl
theorem wd_290 : (Cond.arrayClass .byte) ∈ tb := tb_of (in_1 _ (List.mem_of_getElem? (i := 227) rfl)) rfl
theorem wd_291 : (Cond.methodLink RX5 76 yX0_readAll) ∈ tb := tb_of (in_1 _ (List.mem_of_getElem? (i := 228) rfl)) rfl
theorem wd_292 : (Cond.instanceMethod yX0_readAll) ∈ tb := tb_of (in_1 _ (List.mem_of_getElem? (i := 229) rfl)) rfl
theorem wd_293 : (Cond.selects RX0 yX0_readAll yX0_readAll) ∈ tb := tb_of (in_1 _ (List.mem_of_getElem? (i := 230) rfl)) rfl
theorem wd_294 : (Cond.code yX0_readAll cX0_readAll 4 (some .int)) ∈ tb := tb_of (in_1 _ (List.mem_of_getElem? (i := 231) rfl)) rfl
theorem wd_295 : (Cond.methodLink RX0 19 Lib.Math.min.name) ∈ tb := tb_of (in_1 _ (List.mem_of_getElem? (i := 232) rfl)) rfl
theorem wd_296 : (Cond.methodLink RX0 35 yX0_advance) ∈ tb := tb_of (in_1 _ (List.mem_of_getElem? (i := 233) rfl)) rfl
theorem wd_298 : (Cond.instanceMethod yX0_advance) ∈ tb := tb_of (in_1 _ (List.mem_of_getElem? (i := 235) rfl)) rfl
theorem wd_299 : (Cond.code yX0_advance cX0_advance 2 none) ∈ tb := tb_of (in_1 _ (List.mem_of_getElem? (i := 236) rfl)) rfl
theorem wd_300 : (Cond.methodLink RX0 76 yX0_byteAt) ∈ tb := tb_of (in_1 _ (List.mem_of_getElem? (i := 237) rfl)) rfl
theorem wd_302 : (Cond.instanceMethod yX0_byteAt) ∈ tb := tb_of (in_1 _ (List.mem_of_getElem? (i := 239) rfl)) rfl
theorem wd_303 : (Cond.code yX0_byteAt cX0_byteAt 2 (some .int)) ∈ tb := tb_of (in_2 _ (List.mem_of_getElem? (i := 0) rfl)) rfl
theorem wd_304 : (Cond.methodLink RX0 80 yX0_isLetter) ∈ tb := tb_of (in_2 _ (List.mem_of_getElem? (i := 1) rfl)) rfl
theorem wd_305 : (Cond.static yX0_isLetter) ∈ tb := tb_of (in_2 _ (List.mem_of_getElem? (i := 2) rfl)) rfl
theorem wd_306 : (Cond.code yX0_isLetter cX0_isLetter 1 (some .boolean)) ∈ tb := tb_of (in_2 _ (List.mem_of_getElem? (i := 3) rfl)) rfl
theorem wd_307 : (Cond.methodLink RX0 83 yX0_takeWord) ∈ tb := tb_of (in_2 _ (List.mem_of_getElem? (i := 4) rfl)) rfl
theorem wd_309 : (Cond.instanceMethod yX0_takeWord) ∈ tb := tb_of (in_2 _ (List.mem_of_getElem? (i := 6) rfl)) rfl
theorem wd_310 : (Cond.code yX0_takeWord cX0_takeWord 2 none) ∈ tb := tb_of (in_2 _ (List.mem_of_getElem? (i := 7) rfl)) rfl
theorem wd_311 : (Cond.methodLink RX0 95 yX0_word) ∈ tb := tb_of (in_2 _ (List.mem_of_getElem? (i := 8) rfl)) rfl
theorem wd_312 : (Cond.static yX0_word) ∈ tb := tb_of (in_2 _ (List.mem_of_getElem? (i := 9) rfl)) rfl
theorem wd_313 : (Cond.code yX0_word cX0_word 1 (some (.object "java/lang/String"))) ∈ tb := tb_of (in_2 _ (List.mem_of_getElem? (i := 10) rfl)) rfl
theorem wd_326 : (Cond.methodLink RX0 99 yX0_isWord) ∈ tb := tb_of (in_2 _ (List.mem_of_getElem? (i := 23) rfl)) rfl
theorem wd_328 : (Cond.instanceMethod yX0_isWord) ∈ tb := tb_of (in_2 _ (List.mem_of_getElem? (i := 25) rfl)) rfl
theorem wd_329 : (Cond.code yX0_isWord cX0_isWord 3 (some .boolean)) ∈ tb := tb_of (in_2 _ (List.mem_of_getElem? (i := 26) rfl)) rfl
theorem wd_330 : (Cond.methodLink RX0 103 yJ0_length_8abf5) ∈ tb := tb_of (in_2 _ (List.mem_of_getElem? (i := 27) rfl)) rfl
theorem wd_331 : (Cond.methodLink RX0 109 yJ0_charAt_5068e) ∈ tb := tb_of (in_2 _ (List.mem_of_getElem? (i := 28) rfl)) rfl
theorem wd_332 : (Cond.methodLink RX0 86 yX0_isDigit) ∈ tb := tb_of (in_2 _ (List.mem_of_getElem? (i := 29) rfl)) rfl
theorem wd_333 : (Cond.static yX0_isDigit) ∈ tb := tb_of (in_2 _ (List.mem_of_getElem? (i := 30) rfl)) rfl
theorem wd_334 : (Cond.code yX0_isDigit cX0_isDigit 1 (some .boolean)) ∈ tb := tb_of (in_2 _ (List.mem_of_getElem? (i := 31) rfl)) rfl
theorem wd_335 : (Cond.methodLink RX0 89 yX0_takeNumber) ∈ tb := tb_of (in_2 _ (List.mem_of_getElem? (i := 32) rfl)) rfl
theorem wd_337 : (Cond.instanceMethod yX0_takeNumber) ∈ tb := tb_of (in_2 _ (List.mem_of_getElem? (i := 34) rfl)) rfl
theorem wd_338 : (Cond.code yX0_takeNumber cX0_takeNumber 1 none) ∈ tb := tb_of (in_2 _ (List.mem_of_getElem? (i := 35) rfl)) rfl
theorem wd_339 : (Cond.methodLink RX0 92 yX0_isSign) ∈ tb := tb_of (in_2 _ (List.mem_of_getElem? (i := 36) rfl)) rfl
theorem wd_340 : (Cond.static yX0_isSign) ∈ tb := tb_of (in_2 _ (List.mem_of_getElem? (i := 37) rfl)) rfl
theorem wd_341 : (Cond.code yX0_isSign cX0_isSign 1 (some .boolean)) ∈ tb := tb_of (in_2 _ (List.mem_of_getElem? (i := 38) rfl)) rfl
theorem wd_342 : (Cond.methodLink RX0 44 yX0_readEither) ∈ tb := tb_of (in_2 _ (List.mem_of_getElem? (i := 39) rfl)) rfl
theorem wd_344 : (Cond.instanceMethod yX0_readEither) ∈ tb := tb_of (in_2 _ (List.mem_of_getElem? (i := 41) rfl)) rfl
theorem wd_345 : (Cond.code yX0_readEither cX0_readEither 3 (some .boolean)) ∈ tb := tb_of (in_2 _ (List.mem_of_getElem? (i := 42) rfl)) rfl
theorem wd_346 : (Cond.methodLink RX0 51 yX0_readBoth) ∈ tb := tb_of (in_2 _ (List.mem_of_getElem? (i := 43) rfl)) rfl
theorem wd_348 : (Cond.instanceMethod yX0_readBoth) ∈ tb := tb_of (in_2 _ (List.mem_of_getElem? (i := 45) rfl)) rfl
theorem wd_349 : (Cond.code yX0_readBoth cX0_readBoth 3 (some .boolean)) ∈ tb := tb_of (in_2 _ (List.mem_of_getElem? (i := 46) rfl)) rfl
theorem wd_350 : (Cond.methodLink RX0 58 yX0_readNot) ∈ tb := tb_of (in_2 _ (List.mem_of_getElem? (i := 47) rfl)) rfl
theorem wd_352 : (Cond.instanceMethod yX0_readNot) ∈ tb := tb_of (in_2 _ (List.mem_of_getElem? (i := 49) rfl)) rfl
theorem wd_353 : (Cond.code yX0_readNot cX0_readNot 2 (some .boolean)) ∈ tb := tb_of (in_2 _ (List.mem_of_getElem? (i := 50) rfl)) rfl
theorem wd_354 : (Cond.methodLink RX0 61 yX0_readCompared) ∈ tb := tb_of (in_2 _ (List.mem_of_getElem? (i := 51) rfl)) rfl
theorem wd_356 : (Cond.instanceMethod yX0_readCompared) ∈ tb := tb_of (in_2 _ (List.mem_of_getElem? (i := 53) rfl)) rfl
theorem wd_357 : (Cond.code yX0_readCompared cX0_readCompared 3 (some .boolean)) ∈ tb := tb_of (in_2 _ (List.mem_of_getElem? (i := 54) rfl)) rfl
theorem wd_358 : (Cond.methodLink RX0 64 yX0_readSum) ∈ tb := tb_of (in_2 _ (List.mem_of_getElem? (i := 55) rfl)) rfl
theorem wd_360 : (Cond.instanceMethod yX0_readSum) ∈ tb := tb_of (in_2 _ (List.mem_of_getElem? (i := 57) rfl)) rfl
theorem wd_361 : (Cond.code yX0_readSum cX0_readSum 4 (some .boolean)) ∈ tb := tb_of (in_2 _ (List.mem_of_getElem? (i := 58) rfl)) rfl
theorem wd_362 : (Cond.methodLink RX0 67 yX0_readTerm) ∈ tb := tb_of (in_2 _ (List.mem_of_getElem? (i := 59) rfl)) rfl
theorem wd_364 : (Cond.instanceMethod yX0_readTerm) ∈ tb := tb_of (in_2 _ (List.mem_of_getElem? (i := 61) rfl)) rfl
theorem wd_365 : (Cond.code yX0_readTerm cX0_readTerm 3 (some .boolean)) ∈ tb := tb_of (in_2 _ (List.mem_of_getElem? (i := 62) rfl)) rfl
theorem wd_366 : (Cond.methodLink RX0 70 yX0_readOne) ∈ tb := tb_of (in_2 _ (List.mem_of_getElem? (i := 63) rfl)) rfl
theorem wd_368 : (Cond.instanceMethod yX0_readOne) ∈ tb := tb_of (in_2 _ (List.mem_of_getElem? (i := 65) rfl)) rfl
theorem wd_369 : (Cond.code yX0_readOne cX0_readOne 2 (some .boolean)) ∈ tb := tb_of (in_2 _ (List.mem_of_getElem? (i := 66) rfl)) rfl
theorem wd_370 : (Cond.methodLink RX0 54 yX3_emit) ∈ tb := tb_of (in_2 _ (List.mem_of_getElem? (i := 67) rfl)) rfl
theorem wd_371 : (Cond.instanceMethod yX3_emit) ∈ tb := tb_of (in_2 _ (List.mem_of_getElem? (i := 68) rfl)) rfl
theorem wd_372 : (Cond.selects RX3 yX3_emit yX3_emit) ∈ tb := tb_of (in_2 _ (List.mem_of_getElem? (i := 69) rfl)) rfl
theorem wd_373 : (Cond.code yX3_emit cX3_emit 3 none) ∈ tb := tb_of (in_2 _ (List.mem_of_getElem? (i := 70) rfl)) rfl
theorem wd_374 : (Cond.fieldLink RX5 10 "BedsocksKeepRoads" "truth" "LBedsocksKeepRoads$World;") ∈ tb := tb_of (in_2 _ (List.mem_of_getElem? (i := 71) rfl)) rfl
theorem wd_375 : (Cond.fieldLink RX5 16 "BedsocksKeepRoads" "thought" "LBedsocksKeepRoads$World;") ∈ tb := tb_of (in_2 _ (List.mem_of_getElem? (i := 72) rfl)) rfl
theorem wd_376 : (Cond.fieldLink RX5 19 "BedsocksKeepRoads" "kept" "LBedsocksKeepRoads$World;") ∈ tb := tb_of (in_2 _ (List.mem_of_getElem? (i := 73) rfl)) rfl
theorem wd_377 : (Cond.fieldLink RX5 25 "BedsocksKeepRoads" "ghost" "LBedsocksKeepRoads$Sleeper;") ∈ tb := tb_of (in_2 _ (List.mem_of_getElem? (i := 74) rfl)) rfl
theorem wd_378 : (Cond.fieldLink RX5 31 "BedsocksKeepRoads" "texts" "[LBedsocksKeepRoads$Text;") ∈ tb := tb_of (in_2 _ (List.mem_of_getElem? (i := 75) rfl)) rfl
theorem wd_379 : (Cond.fieldLink RX5 35 "BedsocksKeepRoads" "tape" "[I") ∈ tb := tb_of (in_2 _ (List.mem_of_getElem? (i := 76) rfl)) rfl
theorem wd_380 : (Cond.fieldLink RX5 72 "BedsocksKeepRoads" "reader" "LBedsocksKeepRoads$Reader;") ∈ tb := tb_of (in_2 _ (List.mem_of_getElem? (i := 77) rfl)) rfl
theorem wd_381 : (Cond.fieldLink RX5 41 "BedsocksKeepRoads" "sheets" "[LBedsocksKeepRoads$Sheet;") ∈ tb := tb_of (in_2 _ (List.mem_of_getElem? (i := 78) rfl)) rfl
theorem wd_382 : (Cond.fieldLink RX5 80 "BedsocksKeepRoads" "textCount" "I") ∈ tb := tb_of (in_2 _ (List.mem_of_getElem? (i := 79) rfl)) rfl
theorem wd_383 : (Cond.fieldLink RX5 103 "BedsocksKeepRoads" "tapeSize" "I") ∈ tb := tb_of (in_2 _ (List.mem_of_getElem? (i := 80) rfl)) rfl
theorem wd_384 : (Cond.fieldLink RX5 281 "BedsocksKeepRoads" "hasImage" "Z") ∈ tb := tb_of (in_2 _ (List.mem_of_getElem? (i := 81) rfl)) rfl
theorem wd_408 : (Cond.methodLink RL 13 yX5_count) ∈ tb := tb_of (in_2 _ (List.mem_of_getElem? (i := 105) rfl)) rfl
theorem wd_409 : (Cond.instanceMethod yX5_count) ∈ tb := tb_of (in_2 _ (List.mem_of_getElem? (i := 106) rfl)) rfl
theorem wd_410 : (Cond.selects RX5 yX5_count yX5_count) ∈ tb := tb_of (in_2 _ (List.mem_of_getElem? (i := 107) rfl)) rfl
theorem wd_411 : (Cond.code yX5_count cX5_count 2 (some .int)) ∈ tb := tb_of (in_2 _ (List.mem_of_getElem? (i := 108) rfl)) rfl
theorem wd_412 : (Cond.methodLink RX5 91 yJ13_bitCount_95d88) ∈ tb := tb_of (in_2 _ (List.mem_of_getElem? (i := 109) rfl)) rfl
theorem wd_413 : (Cond.static yJ13_bitCount_95d88) ∈ tb := tb_of (in_2 _ (List.mem_of_getElem? (i := 110) rfl)) rfl
theorem wd_414 : (Cond.code yJ13_bitCount_95d88 cJ13_bitCount_95d88 2 (some .int)) ∈ tb := tb_of (in_2 _ (List.mem_of_getElem? (i := 111) rfl)) rfl
theorem wd_415 : (Cond.constantLong "java/lang/Long" 314 6148914691236517205) ∈ tb := tb_of (in_2 _ (List.mem_of_getElem? (i := 112) rfl)) rfl
theorem wd_416 : (Cond.constantLong "java/lang/Long" 316 3689348814741910323) ∈ tb := tb_of (in_2 _ (List.mem_of_getElem? (i := 113) rfl)) rfl
theorem wd_417 : (Cond.constantLong "java/lang/Long" 318 1085102592571150095) ∈ tb := tb_of (in_2 _ (List.mem_of_getElem? (i := 114) rfl)) rfl
theorem wd_418 : (Cond.methodLink RL 18 yX5_dusk) ∈ tb := tb_of (in_2 _ (List.mem_of_getElem? (i := 115) rfl)) rfl
theorem wd_419 : (Cond.instanceMethod yX5_dusk) ∈ tb := tb_of (in_2 _ (List.mem_of_getElem? (i := 116) rfl)) rfl
theorem wd_420 : (Cond.selects RX5 yX5_dusk yX5_dusk) ∈ tb := tb_of (in_2 _ (List.mem_of_getElem? (i := 117) rfl)) rfl
theorem wd_421 : (Cond.code yX5_dusk cX5_dusk 3 (some .int)) ∈ tb := tb_of (in_2 _ (List.mem_of_getElem? (i := 118) rfl)) rfl
theorem wd_422 : (Cond.methodLink RL 22 yX5_flood) ∈ tb := tb_of (in_2 _ (List.mem_of_getElem? (i := 119) rfl)) rfl
theorem wd_423 : (Cond.instanceMethod yX5_flood) ∈ tb := tb_of (in_2 _ (List.mem_of_getElem? (i := 120) rfl)) rfl
theorem wd_424 : (Cond.selects RX5 yX5_flood yX5_flood) ∈ tb := tb_of (in_2 _ (List.mem_of_getElem? (i := 121) rfl)) rfl
theorem wd_425 : (Cond.code yX5_flood cX5_flood 4 (some .int)) ∈ tb := tb_of (in_2 _ (List.mem_of_getElem? (i := 122) rfl)) rfl
theorem wd_426 : (Cond.methodLink RX5 106 yX5_isCell) ∈ tb := tb_of (in_2 _ (List.mem_of_getElem? (i := 123) rfl)) rfl
theorem wd_427 : (Cond.static yX5_isCell) ∈ tb := tb_of (in_2 _ (List.mem_of_getElem? (i := 124) rfl)) rfl
theorem wd_428 : (Cond.code yX5_isCell cX5_isCell 1 (some .boolean)) ∈ tb := tb_of (in_2 _ (List.mem_of_getElem? (i := 125) rfl)) rfl
theorem wd_429 : (Cond.methodLink RX5 110 yX5_hasWater) ∈ tb := tb_of (in_2 _ (List.mem_of_getElem? (i := 126) rfl)) rfl
theorem wd_430 : (Cond.static yX5_hasWater) ∈ tb := tb_of (in_2 _ (List.mem_of_getElem? (i := 127) rfl)) rfl
theorem wd_431 : (Cond.code yX5_hasWater cX5_hasWater 3 (some .boolean)) ∈ tb := tb_of (in_2 _ (List.mem_of_getElem? (i := 128) rfl)) rfl
theorem wd_432 : (Cond.methodLink RL 27 yX5_feed) ∈ tb := tb_of (in_2 _ (List.mem_of_getElem? (i := 129) rfl)) rfl
theorem wd_433 : (Cond.instanceMethod yX5_feed) ∈ tb := tb_of (in_2 _ (List.mem_of_getElem? (i := 130) rfl)) rfl
theorem wd_434 : (Cond.selects RX5 yX5_feed yX5_feed) ∈ tb := tb_of (in_2 _ (List.mem_of_getElem? (i := 131) rfl)) rfl
theorem wd_435 : (Cond.code yX5_feed cX5_feed 7 (some .int)) ∈ tb := tb_of (in_2 _ (List.mem_of_getElem? (i := 132) rfl)) rfl
theorem wd_436 : (Cond.methodLink RX5 114 yX5_isByte) ∈ tb := tb_of (in_2 _ (List.mem_of_getElem? (i := 133) rfl)) rfl
theorem wd_437 : (Cond.static yX5_isByte) ∈ tb := tb_of (in_2 _ (List.mem_of_getElem? (i := 134) rfl)) rfl
theorem wd_438 : (Cond.code yX5_isByte cX5_isByte 1 (some .boolean)) ∈ tb := tb_of (in_2 _ (List.mem_of_getElem? (i := 135) rfl)) rfl
theorem wd_439 : (Cond.methodLink RX5 117 yX5_feedOne) ∈ tb := tb_of (in_2 _ (List.mem_of_getElem? (i := 136) rfl)) rfl
theorem wd_441 : (Cond.instanceMethod yX5_feedOne) ∈ tb := tb_of (in_2 _ (List.mem_of_getElem? (i := 138) rfl)) rfl
theorem wd_442 : (Cond.code yX5_feedOne cX5_feedOne 2 none) ∈ tb := tb_of (in_2 _ (List.mem_of_getElem? (i := 139) rfl)) rfl
theorem wd_443 : (Cond.methodLink RL 32 yX5_text) ∈ tb := tb_of (in_2 _ (List.mem_of_getElem? (i := 140) rfl)) rfl
theorem wd_444 : (Cond.instanceMethod yX5_text) ∈ tb := tb_of (in_2 _ (List.mem_of_getElem? (i := 141) rfl)) rfl
theorem wd_445 : (Cond.selects RX5 yX5_text yX5_text) ∈ tb := tb_of (in_2 _ (List.mem_of_getElem? (i := 142) rfl)) rfl
theorem wd_446 : (Cond.code yX5_text cX5_text 3 (some .int)) ∈ tb := tb_of (in_2 _ (List.mem_of_getElem? (i := 143) rfl)) rfl
theorem wd_447 : (Cond.methodLink RL 37 yX5_force) ∈ tb := tb_of (in_2 _ (List.mem_of_getElem? (i := 144) rfl)) rfl
theorem wd_448 : (Cond.instanceMethod yX5_force) ∈ tb := tb_of (in_2 _ (List.mem_of_getElem? (i := 145) rfl)) rfl
theorem wd_449 : (Cond.selects RX5 yX5_force yX5_force) ∈ tb := tb_of (in_2 _ (List.mem_of_getElem? (i := 146) rfl)) rfl
theorem wd_450 : (Cond.code yX5_force cX5_force 3 (some .int)) ∈ tb := tb_of (in_2 _ (List.mem_of_getElem? (i := 147) rfl)) rfl
theorem wd_451 : (Cond.methodLink RL 41 yX5_asks) ∈ tb := tb_of (in_2 _ (List.mem_of_getElem? (i := 148) rfl)) rfl
theorem wd_452 : (Cond.instanceMethod yX5_asks) ∈ tb := tb_of (in_2 _ (List.mem_of_getElem? (i := 149) rfl)) rfl
theorem wd_453 : (Cond.selects RX5 yX5_asks yX5_asks) ∈ tb := tb_of (in_2 _ (List.mem_of_getElem? (i := 150) rfl)) rfl
theorem wd_454 : (Cond.code yX5_asks cX5_asks 4 (some .int)) ∈ tb := tb_of (in_2 _ (List.mem_of_getElem? (i := 151) rfl)) rfl
theorem wd_455 : (Cond.methodLink RX5 121 yX4_numbered) ∈ tb := tb_of (in_2 _ (List.mem_of_getElem? (i := 152) rfl)) rfl
theorem wd_456 : (Cond.instanceMethod yX4_numbered) ∈ tb := tb_of (in_2 _ (List.mem_of_getElem? (i := 153) rfl)) rfl
theorem wd_457 : (Cond.selects RX4 yX4_numbered yX4_numbered) ∈ tb := tb_of (in_2 _ (List.mem_of_getElem? (i := 154) rfl)) rfl
theorem wd_458 : (Cond.code yX4_numbered cX4_numbered 2 (some (.object "BedsocksKeepRoads$Sleeper"))) ∈ tb := tb_of (in_2 _ (List.mem_of_getElem? (i := 155) rfl)) rfl
theorem wd_459 : (Cond.methodLink RX5 125 yX5_theLaw) ∈ tb := tb_of (in_2 _ (List.mem_of_getElem? (i := 156) rfl)) rfl
theorem wd_461 : (Cond.instanceMethod yX5_theLaw) ∈ tb := tb_of (in_2 _ (List.mem_of_getElem? (i := 158) rfl)) rfl
theorem wd_462 : (Cond.code yX5_theLaw cX5_theLaw 1 (some (.object "BedsocksKeepRoads$Text"))) ∈ tb := tb_of (in_2 _ (List.mem_of_getElem? (i := 159) rfl)) rfl
theorem wd_463 : (Cond.methodLink RX5 264 yX5_textNumbered) ∈ tb := tb_of (in_2 _ (List.mem_of_getElem? (i := 160) rfl)) rfl
theorem wd_465 : (Cond.instanceMethod yX5_textNumbered) ∈ tb := tb_of (in_2 _ (List.mem_of_getElem? (i := 162) rfl)) rfl
theorem wd_466 : (Cond.code yX5_textNumbered cX5_textNumbered 2 (some (.object "BedsocksKeepRoads$Text"))) ∈ tb := tb_of (in_2 _ (List.mem_of_getElem? (i := 163) rfl)) rfl
theorem wd_467 : (Cond.methodLink RX5 129 yX3_says) ∈ tb := tb_of (in_2 _ (List.mem_of_getElem? (i := 164) rfl)) rfl
theorem wd_468 : (Cond.instanceMethod yX3_says) ∈ tb := tb_of (in_2 _ (List.mem_of_getElem? (i := 165) rfl)) rfl
theorem wd_469 : (Cond.selects RX3 yX3_says yX3_says) ∈ tb := tb_of (in_2 _ (List.mem_of_getElem? (i := 166) rfl)) rfl
theorem wd_470 : (Cond.code yX3_says cX3_says 7 (some .int)) ∈ tb := tb_of (in_2 _ (List.mem_of_getElem? (i := 167) rfl)) rfl
theorem wd_471 : (Cond.methodLink RX3 28 Lib.Math.min.name) ∈ tb := tb_of (in_2 _ (List.mem_of_getElem? (i := 168) rfl)) rfl
theorem wd_472 : (Cond.methodLink RX3 34 Lib.Math.max.name) ∈ tb := tb_of (in_2 _ (List.mem_of_getElem? (i := 169) rfl)) rfl
theorem wd_473 : (Cond.static Lib.Math.max.name) ∈ tb := tb_of (in_2 _ (List.mem_of_getElem? (i := 170) rfl)) rfl
theorem wd_474 : (Cond.code Lib.Math.max.name cJ9_max_7cf53 2 (some .int)) ∈ tb := tb_of (in_2 _ (List.mem_of_getElem? (i := 171) rfl)) rfl
theorem wd_475 : (Cond.methodLink RX3 37 yX2_named) ∈ tb := tb_of (in_2 _ (List.mem_of_getElem? (i := 172) rfl)) rfl
theorem wd_476 : (Cond.instanceMethod yX2_named) ∈ tb := tb_of (in_2 _ (List.mem_of_getElem? (i := 173) rfl)) rfl
theorem wd_477 : (Cond.selects RX2 yX2_named yX2_named) ∈ tb := tb_of (in_2 _ (List.mem_of_getElem? (i := 174) rfl)) rfl
theorem wd_478 : (Cond.code yX2_named cX2_named 2 (some .int)) ∈ tb := tb_of (in_2 _ (List.mem_of_getElem? (i := 175) rfl)) rfl
theorem wd_479 : (Cond.methodLink RX3 43 yX3_ofOne) ∈ tb := tb_of (in_2 _ (List.mem_of_getElem? (i := 176) rfl)) rfl
theorem wd_480 : (Cond.static yX3_ofOne) ∈ tb := tb_of (in_2 _ (List.mem_of_getElem? (i := 177) rfl)) rfl
theorem wd_481 : (Cond.code yX3_ofOne cX3_ofOne 2 (some .int)) ∈ tb := tb_of (in_2 _ (List.mem_of_getElem? (i := 178) rfl)) rfl
theorem wd_482 : (Cond.methodLink RX3 46 yX3_ofTwo) ∈ tb := tb_of (in_2 _ (List.mem_of_getElem? (i := 179) rfl)) rfl
theorem wd_483 : (Cond.static yX3_ofTwo) ∈ tb := tb_of (in_2 _ (List.mem_of_getElem? (i := 180) rfl)) rfl
theorem wd_484 : (Cond.code yX3_ofTwo cX3_ofTwo 3 (some .int)) ∈ tb := tb_of (in_2 _ (List.mem_of_getElem? (i := 181) rfl)) rfl
theorem wd_485 : (Cond.methodLink RX3 50 yX3_within) ∈ tb := tb_of (in_2 _ (List.mem_of_getElem? (i := 182) rfl)) rfl
theorem wd_486 : (Cond.static yX3_within) ∈ tb := tb_of (in_2 _ (List.mem_of_getElem? (i := 183) rfl)) rfl
theorem wd_487 : (Cond.code yX3_within cX3_within 4 (some .int)) ∈ tb := tb_of (in_2 _ (List.mem_of_getElem? (i := 184) rfl)) rfl
theorem wd_488 : (Cond.methodLink RL 45 yX5_sleeper) ∈ tb := tb_of (in_2 _ (List.mem_of_getElem? (i := 185) rfl)) rfl
theorem wd_489 : (Cond.instanceMethod yX5_sleeper) ∈ tb := tb_of (in_2 _ (List.mem_of_getElem? (i := 186) rfl)) rfl
theorem wd_490 : (Cond.selects RX5 yX5_sleeper yX5_sleeper) ∈ tb := tb_of (in_2 _ (List.mem_of_getElem? (i := 187) rfl)) rfl
theorem wd_491 : (Cond.code yX5_sleeper cX5_sleeper 3 (some .int)) ∈ tb := tb_of (in_2 _ (List.mem_of_getElem? (i := 188) rfl)) rfl
theorem wd_492 : (Cond.methodLink RX5 133 yX5_isKindMore) ∈ tb := tb_of (in_2 _ (List.mem_of_getElem? (i := 189) rfl)) rfl
theorem wd_493 : (Cond.static yX5_isKindMore) ∈ tb := tb_of (in_2 _ (List.mem_of_getElem? (i := 190) rfl)) rfl
theorem wd_494 : (Cond.code yX5_isKindMore cX5_isKindMore 1 (some .boolean)) ∈ tb := tb_of (in_2 _ (List.mem_of_getElem? (i := 191) rfl)) rfl
theorem wd_495 : (Cond.methodLink RX5 136 yX5_isCellWay) ∈ tb := tb_of (in_2 _ (List.mem_of_getElem? (i := 192) rfl)) rfl
theorem wd_496 : (Cond.static yX5_isCellWay) ∈ tb := tb_of (in_2 _ (List.mem_of_getElem? (i := 193) rfl)) rfl
theorem wd_497 : (Cond.code yX5_isCellWay cX5_isCellWay 1 (some .boolean)) ∈ tb := tb_of (in_2 _ (List.mem_of_getElem? (i := 194) rfl)) rfl
theorem wd_498 : (Cond.methodLink RX5 139 yX4_add) ∈ tb := tb_of (in_2 _ (List.mem_of_getElem? (i := 195) rfl)) rfl
theorem wd_499 : (Cond.instanceMethod yX4_add) ∈ tb := tb_of (in_2 _ (List.mem_of_getElem? (i := 196) rfl)) rfl
theorem wd_500 : (Cond.selects RX4 yX4_add yX4_add) ∈ tb := tb_of (in_2 _ (List.mem_of_getElem? (i := 197) rfl)) rfl
theorem wd_501 : (Cond.code yX4_add cX4_add 3 (some .int)) ∈ tb := tb_of (in_2 _ (List.mem_of_getElem? (i := 198) rfl)) rfl
theorem wd_502 : (Cond.methodLink RX4 36 yX2_arrive) ∈ tb := tb_of (in_2 _ (List.mem_of_getElem? (i := 199) rfl)) rfl
theorem wd_503 : (Cond.instanceMethod yX2_arrive) ∈ tb := tb_of (in_2 _ (List.mem_of_getElem? (i := 200) rfl)) rfl
theorem wd_504 : (Cond.selects RX2 yX2_arrive yX2_arrive) ∈ tb := tb_of (in_2 _ (List.mem_of_getElem? (i := 201) rfl)) rfl
theorem wd_505 : (Cond.code yX2_arrive cX2_arrive 3 none) ∈ tb := tb_of (in_2 _ (List.mem_of_getElem? (i := 202) rfl)) rfl
theorem wd_506 : (Cond.methodLink RL 49 yX5_put) ∈ tb := tb_of (in_2 _ (List.mem_of_getElem? (i := 203) rfl)) rfl
theorem wd_507 : (Cond.instanceMethod yX5_put) ∈ tb := tb_of (in_2 _ (List.mem_of_getElem? (i := 204) rfl)) rfl
theorem wd_508 : (Cond.selects RX5 yX5_put yX5_put) ∈ tb := tb_of (in_2 _ (List.mem_of_getElem? (i := 205) rfl)) rfl
theorem wd_509 : (Cond.code yX5_put cX5_put 6 (some .int)) ∈ tb := tb_of (in_2 _ (List.mem_of_getElem? (i := 206) rfl)) rfl
theorem wd_510 : (Cond.methodLink RX5 142 yX2_bound) ∈ tb := tb_of (in_2 _ (List.mem_of_getElem? (i := 207) rfl)) rfl
theorem wd_511 : (Cond.instanceMethod yX2_bound) ∈ tb := tb_of (in_2 _ (List.mem_of_getElem? (i := 208) rfl)) rfl
theorem wd_512 : (Cond.selects RX2 yX2_bound yX2_bound) ∈ tb := tb_of (in_2 _ (List.mem_of_getElem? (i := 209) rfl)) rfl
theorem wd_513 : (Cond.code yX2_bound cX2_bound 2 (some .int)) ∈ tb := tb_of (in_2 _ (List.mem_of_getElem? (i := 210) rfl)) rfl
theorem wd_514 : (Cond.methodLink RX5 146 yX2_part) ∈ tb := tb_of (in_2 _ (List.mem_of_getElem? (i := 211) rfl)) rfl
theorem wd_515 : (Cond.instanceMethod yX2_part) ∈ tb := tb_of (in_2 _ (List.mem_of_getElem? (i := 212) rfl)) rfl
theorem wd_516 : (Cond.selects RX2 yX2_part yX2_part) ∈ tb := tb_of (in_2 _ (List.mem_of_getElem? (i := 213) rfl)) rfl
theorem wd_517 : (Cond.code yX2_part cX2_part 2 (some .int)) ∈ tb := tb_of (in_2 _ (List.mem_of_getElem? (i := 214) rfl)) rfl
theorem wd_518 : (Cond.methodLink RX5 149 yX2_become) ∈ tb := tb_of (in_2 _ (List.mem_of_getElem? (i := 215) rfl)) rfl
theorem wd_519 : (Cond.instanceMethod yX2_become) ∈ tb := tb_of (in_2 _ (List.mem_of_getElem? (i := 216) rfl)) rfl
theorem wd_520 : (Cond.selects RX2 yX2_become yX2_become) ∈ tb := tb_of (in_2 _ (List.mem_of_getElem? (i := 217) rfl)) rfl
theorem wd_521 : (Cond.code yX2_become cX2_become 3 none) ∈ tb := tb_of (in_2 _ (List.mem_of_getElem? (i := 218) rfl)) rfl
theorem wd_522 : (Cond.methodLink RL 54 yX5_told) ∈ tb := tb_of (in_2 _ (List.mem_of_getElem? (i := 219) rfl)) rfl
theorem wd_523 : (Cond.instanceMethod yX5_told) ∈ tb := tb_of (in_2 _ (List.mem_of_getElem? (i := 220) rfl)) rfl
theorem wd_524 : (Cond.selects RX5 yX5_told yX5_told) ∈ tb := tb_of (in_2 _ (List.mem_of_getElem? (i := 221) rfl)) rfl
theorem wd_525 : (Cond.code yX5_told cX5_told 4 (some .int)) ∈ tb := tb_of (in_2 _ (List.mem_of_getElem? (i := 222) rfl)) rfl
theorem wd_526 : (Cond.methodLink RX5 159 yX2_goesBy) ∈ tb := tb_of (in_2 _ (List.mem_of_getElem? (i := 223) rfl)) rfl
theorem wd_527 : (Cond.instanceMethod yX2_goesBy) ∈ tb := tb_of (in_2 _ (List.mem_of_getElem? (i := 224) rfl)) rfl
theorem wd_528 : (Cond.selects RX2 yX2_goesBy yX2_goesBy) ∈ tb := tb_of (in_2 _ (List.mem_of_getElem? (i := 225) rfl)) rfl
theorem wd_529 : (Cond.code yX2_goesBy cX2_goesBy 4 (some .int)) ∈ tb := tb_of (in_2 _ (List.mem_of_getElem? (i := 226) rfl)) rfl
theorem wd_530 : (Cond.methodLink RX2 62 yX3_says) ∈ tb := tb_of (in_2 _ (List.mem_of_getElem? (i := 227) rfl)) rfl
theorem wd_531 : (Cond.methodLink RX2 66 yX2_goesAsBaby) ∈ tb := tb_of (in_2 _ (List.mem_of_getElem? (i := 228) rfl)) rfl
theorem wd_533 : (Cond.instanceMethod yX2_goesAsBaby) ∈ tb := tb_of (in_2 _ (List.mem_of_getElem? (i := 230) rfl)) rfl
theorem wd_534 : (Cond.code yX2_goesAsBaby cX2_goesAsBaby 3 (some .int)) ∈ tb := tb_of (in_2 _ (List.mem_of_getElem? (i := 231) rfl)) rfl
theorem wd_535 : (Cond.methodLink RX2 69 Lib.Math.min.name) ∈ tb := tb_of (in_2 _ (List.mem_of_getElem? (i := 232) rfl)) rfl
theorem wd_536 : (Cond.methodLink RX5 163 yX2_mindsBy) ∈ tb := tb_of (in_2 _ (List.mem_of_getElem? (i := 233) rfl)) rfl
theorem wd_537 : (Cond.instanceMethod yX2_mindsBy) ∈ tb := tb_of (in_2 _ (List.mem_of_getElem? (i := 234) rfl)) rfl
theorem wd_538 : (Cond.selects RX2 yX2_mindsBy yX2_mindsBy) ∈ tb := tb_of (in_2 _ (List.mem_of_getElem? (i := 235) rfl)) rfl
theorem wd_539 : (Cond.code yX2_mindsBy cX2_mindsBy 3 (some .int)) ∈ tb := tb_of (in_2 _ (List.mem_of_getElem? (i := 236) rfl)) rfl
theorem wd_540 : (Cond.methodLink RX5 166 yX2_wearsBy) ∈ tb := tb_of (in_2 _ (List.mem_of_getElem? (i := 237) rfl)) rfl
theorem wd_541 : (Cond.instanceMethod yX2_wearsBy) ∈ tb := tb_of (in_2 _ (List.mem_of_getElem? (i := 238) rfl)) rfl
theorem wd_542 : (Cond.selects RX2 yX2_wearsBy yX2_wearsBy) ∈ tb := tb_of (in_2 _ (List.mem_of_getElem? (i := 239) rfl)) rfl
theorem wd_543 : (Cond.code yX2_wearsBy cX2_wearsBy 4 (some .int)) ∈ tb := tb_of (in_3 _ (List.mem_of_getElem? (i := 0) rfl)) rfl
theorem wd_544 : (Cond.methodLink RX5 173 yX2_stitchAt) ∈ tb := tb_of (in_3 _ (List.mem_of_getElem? (i := 1) rfl)) rfl
theorem wd_545 : (Cond.instanceMethod yX2_stitchAt) ∈ tb := tb_of (in_3 _ (List.mem_of_getElem? (i := 2) rfl)) rfl
theorem wd_546 : (Cond.selects RX2 yX2_stitchAt yX2_stitchAt) ∈ tb := tb_of (in_3 _ (List.mem_of_getElem? (i := 3) rfl)) rfl
theorem wd_547 : (Cond.code yX2_stitchAt cX2_stitchAt 2 (some .int)) ∈ tb := tb_of (in_3 _ (List.mem_of_getElem? (i := 4) rfl)) rfl
theorem wd_548 : (Cond.methodLink RL 58 yX5_knit) ∈ tb := tb_of (in_3 _ (List.mem_of_getElem? (i := 5) rfl)) rfl
theorem wd_549 : (Cond.instanceMethod yX5_knit) ∈ tb := tb_of (in_3 _ (List.mem_of_getElem? (i := 6) rfl)) rfl
theorem wd_550 : (Cond.selects RX5 yX5_knit yX5_knit) ∈ tb := tb_of (in_3 _ (List.mem_of_getElem? (i := 7) rfl)) rfl
theorem wd_551 : (Cond.code yX5_knit cX5_knit 6 (some .int)) ∈ tb := tb_of (in_3 _ (List.mem_of_getElem? (i := 8) rfl)) rfl
theorem wd_552 : (Cond.methodLink RX5 176 yX5_sheetRefusal) ∈ tb := tb_of (in_3 _ (List.mem_of_getElem? (i := 9) rfl)) rfl
theorem wd_554 : (Cond.instanceMethod yX5_sheetRefusal) ∈ tb := tb_of (in_3 _ (List.mem_of_getElem? (i := 11) rfl)) rfl
theorem wd_555 : (Cond.code yX5_sheetRefusal cX5_sheetRefusal 2 (some .int)) ∈ tb := tb_of (in_3 _ (List.mem_of_getElem? (i := 12) rfl)) rfl
theorem wd_556 : (Cond.methodLink RX5 268 yX5_isSheet) ∈ tb := tb_of (in_3 _ (List.mem_of_getElem? (i := 13) rfl)) rfl
theorem wd_557 : (Cond.static yX5_isSheet) ∈ tb := tb_of (in_3 _ (List.mem_of_getElem? (i := 14) rfl)) rfl
theorem wd_558 : (Cond.code yX5_isSheet cX5_isSheet 1 (some .boolean)) ∈ tb := tb_of (in_3 _ (List.mem_of_getElem? (i := 15) rfl)) rfl
theorem wd_559 : (Cond.methodLink RX5 179 yX1_isSock) ∈ tb := tb_of (in_3 _ (List.mem_of_getElem? (i := 16) rfl)) rfl
theorem wd_560 : (Cond.instanceMethod yX1_isSock) ∈ tb := tb_of (in_3 _ (List.mem_of_getElem? (i := 17) rfl)) rfl
theorem wd_561 : (Cond.selects RX1 yX1_isSock yX1_isSock) ∈ tb := tb_of (in_3 _ (List.mem_of_getElem? (i := 18) rfl)) rfl
theorem wd_562 : (Cond.code yX1_isSock cX1_isSock 2 (some .boolean)) ∈ tb := tb_of (in_3 _ (List.mem_of_getElem? (i := 19) rfl)) rfl
theorem wd_563 : (Cond.methodLink RX1 41 yX1_read) ∈ tb := tb_of (in_3 _ (List.mem_of_getElem? (i := 20) rfl)) rfl
theorem wd_564 : (Cond.instanceMethod yX1_read) ∈ tb := tb_of (in_3 _ (List.mem_of_getElem? (i := 21) rfl)) rfl
theorem wd_565 : (Cond.selects RX1 yX1_read yX1_read) ∈ tb := tb_of (in_3 _ (List.mem_of_getElem? (i := 22) rfl)) rfl
theorem wd_566 : (Cond.code yX1_read cX1_read 2 (some .int)) ∈ tb := tb_of (in_3 _ (List.mem_of_getElem? (i := 23) rfl)) rfl
theorem wd_567 : (Cond.methodLink RX1 37 yX1_has) ∈ tb := tb_of (in_3 _ (List.mem_of_getElem? (i := 24) rfl)) rfl
theorem wd_568 : (Cond.instanceMethod yX1_has) ∈ tb := tb_of (in_3 _ (List.mem_of_getElem? (i := 25) rfl)) rfl
theorem wd_569 : (Cond.selects RX1 yX1_has yX1_has) ∈ tb := tb_of (in_3 _ (List.mem_of_getElem? (i := 26) rfl)) rfl
theorem wd_570 : (Cond.code yX1_has cX1_has 2 (some .boolean)) ∈ tb := tb_of (in_3 _ (List.mem_of_getElem? (i := 27) rfl)) rfl
theorem wd_571 : (Cond.methodLink RX5 183 yX2_wear) ∈ tb := tb_of (in_3 _ (List.mem_of_getElem? (i := 28) rfl)) rfl
theorem wd_572 : (Cond.instanceMethod yX2_wear) ∈ tb := tb_of (in_3 _ (List.mem_of_getElem? (i := 29) rfl)) rfl
theorem wd_573 : (Cond.selects RX2 yX2_wear yX2_wear) ∈ tb := tb_of (in_3 _ (List.mem_of_getElem? (i := 30) rfl)) rfl
theorem wd_574 : (Cond.code yX2_wear cX2_wear 3 none) ∈ tb := tb_of (in_3 _ (List.mem_of_getElem? (i := 31) rfl)) rfl
theorem wd_575 : (Cond.methodLink RX2 53 yX1_read) ∈ tb := tb_of (in_3 _ (List.mem_of_getElem? (i := 32) rfl)) rfl
theorem wd_576 : (Cond.methodLink RX2 56 yX2_mend) ∈ tb := tb_of (in_3 _ (List.mem_of_getElem? (i := 33) rfl)) rfl
theorem wd_577 : (Cond.instanceMethod yX2_mend) ∈ tb := tb_of (in_3 _ (List.mem_of_getElem? (i := 34) rfl)) rfl
theorem wd_578 : (Cond.selects RX2 yX2_mend yX2_mend) ∈ tb := tb_of (in_3 _ (List.mem_of_getElem? (i := 35) rfl)) rfl
theorem wd_579 : (Cond.code yX2_mend cX2_mend 3 none) ∈ tb := tb_of (in_3 _ (List.mem_of_getElem? (i := 36) rfl)) rfl
theorem wd_580 : (Cond.methodLink RL 62 yX5_darn) ∈ tb := tb_of (in_3 _ (List.mem_of_getElem? (i := 37) rfl)) rfl
theorem wd_581 : (Cond.instanceMethod yX5_darn) ∈ tb := tb_of (in_3 _ (List.mem_of_getElem? (i := 38) rfl)) rfl
theorem wd_582 : (Cond.selects RX5 yX5_darn yX5_darn) ∈ tb := tb_of (in_3 _ (List.mem_of_getElem? (i := 39) rfl)) rfl
theorem wd_583 : (Cond.code yX5_darn cX5_darn 6 (some .int)) ∈ tb := tb_of (in_3 _ (List.mem_of_getElem? (i := 40) rfl)) rfl
theorem wd_584 : (Cond.methodLink RX5 187 yX2_mend) ∈ tb := tb_of (in_3 _ (List.mem_of_getElem? (i := 41) rfl)) rfl
theorem wd_585 : (Cond.methodLink RL 66 yX5_night) ∈ tb := tb_of (in_3 _ (List.mem_of_getElem? (i := 42) rfl)) rfl
theorem wd_586 : (Cond.instanceMethod yX5_night) ∈ tb := tb_of (in_3 _ (List.mem_of_getElem? (i := 43) rfl)) rfl
theorem wd_587 : (Cond.selects RX5 yX5_night yX5_night) ∈ tb := tb_of (in_3 _ (List.mem_of_getElem? (i := 44) rfl)) rfl
theorem wd_588 : (Cond.code yX5_night cX5_night 1 (some .int)) ∈ tb := tb_of (in_3 _ (List.mem_of_getElem? (i := 45) rfl)) rfl
theorem wd_589 : (Cond.methodLink RX5 190 yX4_pass) ∈ tb := tb_of (in_3 _ (List.mem_of_getElem? (i := 46) rfl)) rfl
theorem wd_590 : (Cond.instanceMethod yX4_pass) ∈ tb := tb_of (in_3 _ (List.mem_of_getElem? (i := 47) rfl)) rfl
theorem wd_591 : (Cond.selects RX4 yX4_pass yX4_pass) ∈ tb := tb_of (in_3 _ (List.mem_of_getElem? (i := 48) rfl)) rfl
theorem wd_592 : (Cond.code yX4_pass cX4_pass 4 (some .int)) ∈ tb := tb_of (in_3 _ (List.mem_of_getElem? (i := 49) rfl)) rfl
theorem wd_593 : (Cond.methodLink RX4 40 yX2_walk) ∈ tb := tb_of (in_3 _ (List.mem_of_getElem? (i := 50) rfl)) rfl
theorem wd_594 : (Cond.instanceMethod yX2_walk) ∈ tb := tb_of (in_3 _ (List.mem_of_getElem? (i := 51) rfl)) rfl
theorem wd_595 : (Cond.selects RX2 yX2_walk yX2_walk) ∈ tb := tb_of (in_3 _ (List.mem_of_getElem? (i := 52) rfl)) rfl
theorem wd_596 : (Cond.code yX2_walk cX2_walk 8 (some .int)) ∈ tb := tb_of (in_3 _ (List.mem_of_getElem? (i := 53) rfl)) rfl
theorem wd_597 : (Cond.methodLink RX2 75 yX2_goesBy) ∈ tb := tb_of (in_3 _ (List.mem_of_getElem? (i := 54) rfl)) rfl
theorem wd_598 : (Cond.methodLink RX2 79 yX2_wearsBy) ∈ tb := tb_of (in_3 _ (List.mem_of_getElem? (i := 55) rfl)) rfl
theorem wd_599 : (Cond.methodLink RX2 83 yX2_goOn) ∈ tb := tb_of (in_3 _ (List.mem_of_getElem? (i := 56) rfl)) rfl
theorem wd_601 : (Cond.instanceMethod yX2_goOn) ∈ tb := tb_of (in_3 _ (List.mem_of_getElem? (i := 58) rfl)) rfl
theorem wd_602 : (Cond.code yX2_goOn cX2_goOn 5 (some .boolean)) ∈ tb := tb_of (in_3 _ (List.mem_of_getElem? (i := 59) rfl)) rfl
theorem wd_603 : (Cond.methodLink RX2 46 yX2_stitchAt) ∈ tb := tb_of (in_3 _ (List.mem_of_getElem? (i := 60) rfl)) rfl
theorem wd_604 : (Cond.methodLink RX2 90 yX2_beside) ∈ tb := tb_of (in_3 _ (List.mem_of_getElem? (i := 61) rfl)) rfl
theorem wd_606 : (Cond.instanceMethod yX2_beside) ∈ tb := tb_of (in_3 _ (List.mem_of_getElem? (i := 63) rfl)) rfl
theorem wd_607 : (Cond.code yX2_beside cX2_beside 3 (some .int)) ∈ tb := tb_of (in_3 _ (List.mem_of_getElem? (i := 64) rfl)) rfl
theorem wd_609 : (Cond.methodLink RX2 87 Lib.Math.max.name) ∈ tb := tb_of (in_3 _ (List.mem_of_getElem? (i := 66) rfl)) rfl
theorem wd_610 : (Cond.methodLink RL 70 yX5_run) ∈ tb := tb_of (in_3 _ (List.mem_of_getElem? (i := 67) rfl)) rfl
theorem wd_611 : (Cond.instanceMethod yX5_run) ∈ tb := tb_of (in_3 _ (List.mem_of_getElem? (i := 68) rfl)) rfl
theorem wd_612 : (Cond.selects RX5 yX5_run yX5_run) ∈ tb := tb_of (in_3 _ (List.mem_of_getElem? (i := 69) rfl)) rfl
theorem wd_613 : (Cond.code yX5_run cX5_run 7 (some .int)) ∈ tb := tb_of (in_3 _ (List.mem_of_getElem? (i := 70) rfl)) rfl
theorem wd_614 : (Cond.constant RX5 193 (-100000)) ∈ tb := tb_of (in_3 _ (List.mem_of_getElem? (i := 71) rfl)) rfl
theorem wd_615 : (Cond.methodLink RX5 194 yX4_becomeAs) ∈ tb := tb_of (in_3 _ (List.mem_of_getElem? (i := 72) rfl)) rfl
theorem wd_616 : (Cond.instanceMethod yX4_becomeAs) ∈ tb := tb_of (in_3 _ (List.mem_of_getElem? (i := 73) rfl)) rfl
theorem wd_617 : (Cond.selects RX4 yX4_becomeAs yX4_becomeAs) ∈ tb := tb_of (in_3 _ (List.mem_of_getElem? (i := 74) rfl)) rfl
theorem wd_618 : (Cond.code yX4_becomeAs cX4_becomeAs 3 none) ∈ tb := tb_of (in_3 _ (List.mem_of_getElem? (i := 75) rfl)) rfl
theorem wd_619 : (Cond.methodLink RX4 32 yX2_becomeAs) ∈ tb := tb_of (in_3 _ (List.mem_of_getElem? (i := 76) rfl)) rfl
theorem wd_620 : (Cond.instanceMethod yX2_becomeAs) ∈ tb := tb_of (in_3 _ (List.mem_of_getElem? (i := 77) rfl)) rfl
theorem wd_621 : (Cond.selects RX2 yX2_becomeAs yX2_becomeAs) ∈ tb := tb_of (in_3 _ (List.mem_of_getElem? (i := 78) rfl)) rfl
theorem wd_622 : (Cond.code yX2_becomeAs cX2_becomeAs 2 none) ∈ tb := tb_of (in_3 _ (List.mem_of_getElem? (i := 79) rfl)) rfl
theorem wd_623 : (Cond.methodLink RX2 40 arraycopyName) ∈ tb := tb_of (in_3 _ (List.mem_of_getElem? (i := 80) rfl)) rfl
theorem wd_624 : (Cond.static arraycopyName) ∈ tb := tb_of (in_3 _ (List.mem_of_getElem? (i := 81) rfl)) rfl
theorem wd_625 : (Cond.native arraycopyName) ∈ tb := tb_of (in_3 _ (List.mem_of_getElem? (i := 82) rfl)) rfl
theorem wd_626 : (Cond.methodLink RX5 198 yX5_passNights) ∈ tb := tb_of (in_3 _ (List.mem_of_getElem? (i := 83) rfl)) rfl
theorem wd_628 : (Cond.instanceMethod yX5_passNights) ∈ tb := tb_of (in_3 _ (List.mem_of_getElem? (i := 85) rfl)) rfl
theorem wd_629 : (Cond.code yX5_passNights cX5_passNights 4 (some .int)) ∈ tb := tb_of (in_3 _ (List.mem_of_getElem? (i := 86) rfl)) rfl
theorem wd_630 : (Cond.methodLink RX5 201 yX4_mindsOfAll) ∈ tb := tb_of (in_3 _ (List.mem_of_getElem? (i := 87) rfl)) rfl
theorem wd_631 : (Cond.instanceMethod yX4_mindsOfAll) ∈ tb := tb_of (in_3 _ (List.mem_of_getElem? (i := 88) rfl)) rfl
theorem wd_632 : (Cond.selects RX4 yX4_mindsOfAll yX4_mindsOfAll) ∈ tb := tb_of (in_3 _ (List.mem_of_getElem? (i := 89) rfl)) rfl
theorem wd_633 : (Cond.code yX4_mindsOfAll cX4_mindsOfAll 4 (some .int)) ∈ tb := tb_of (in_3 _ (List.mem_of_getElem? (i := 90) rfl)) rfl
theorem wd_634 : (Cond.methodLink RX4 44 yX2_mindsBy) ∈ tb := tb_of (in_3 _ (List.mem_of_getElem? (i := 91) rfl)) rfl
theorem wd_635 : (Cond.methodLink RX5 204 yX4_twos) ∈ tb := tb_of (in_3 _ (List.mem_of_getElem? (i := 92) rfl)) rfl
theorem wd_636 : (Cond.instanceMethod yX4_twos) ∈ tb := tb_of (in_3 _ (List.mem_of_getElem? (i := 93) rfl)) rfl
theorem wd_637 : (Cond.selects RX4 yX4_twos yX4_twos) ∈ tb := tb_of (in_3 _ (List.mem_of_getElem? (i := 94) rfl)) rfl
theorem wd_638 : (Cond.code yX4_twos cX4_twos 4 (some .int)) ∈ tb := tb_of (in_3 _ (List.mem_of_getElem? (i := 95) rfl)) rfl
theorem wd_639 : (Cond.methodLink RL 74 yX5_track) ∈ tb := tb_of (in_3 _ (List.mem_of_getElem? (i := 96) rfl)) rfl
theorem wd_640 : (Cond.instanceMethod yX5_track) ∈ tb := tb_of (in_3 _ (List.mem_of_getElem? (i := 97) rfl)) rfl
theorem wd_641 : (Cond.selects RX5 yX5_track yX5_track) ∈ tb := tb_of (in_3 _ (List.mem_of_getElem? (i := 98) rfl)) rfl
theorem wd_642 : (Cond.code yX5_track cX5_track 3 (some .long)) ∈ tb := tb_of (in_3 _ (List.mem_of_getElem? (i := 99) rfl)) rfl
theorem wd_643 : (Cond.constantLong RX5 213 (-4611686018427387904)) ∈ tb := tb_of (in_3 _ (List.mem_of_getElem? (i := 100) rfl)) rfl
theorem wd_644 : (Cond.methodLink RX5 215 yX5_trailOf) ∈ tb := tb_of (in_3 _ (List.mem_of_getElem? (i := 101) rfl)) rfl
theorem wd_646 : (Cond.instanceMethod yX5_trailOf) ∈ tb := tb_of (in_3 _ (List.mem_of_getElem? (i := 103) rfl)) rfl
theorem wd_647 : (Cond.code yX5_trailOf cX5_trailOf 7 (some .long)) ∈ tb := tb_of (in_3 _ (List.mem_of_getElem? (i := 104) rfl)) rfl
theorem wd_648 : (Cond.methodLink RX5 219 yX5_beginThought) ∈ tb := tb_of (in_3 _ (List.mem_of_getElem? (i := 105) rfl)) rfl
theorem wd_650 : (Cond.instanceMethod yX5_beginThought) ∈ tb := tb_of (in_3 _ (List.mem_of_getElem? (i := 107) rfl)) rfl
theorem wd_651 : (Cond.code yX5_beginThought cX5_beginThought 3 (some .boolean)) ∈ tb := tb_of (in_3 _ (List.mem_of_getElem? (i := 108) rfl)) rfl
theorem wd_652 : (Cond.methodLink RX5 324 yX2_becomeAs) ∈ tb := tb_of (in_3 _ (List.mem_of_getElem? (i := 109) rfl)) rfl
theorem wd_653 : (Cond.methodLink RX5 242 yX5_walkNights) ∈ tb := tb_of (in_3 _ (List.mem_of_getElem? (i := 110) rfl)) rfl
theorem wd_655 : (Cond.instanceMethod yX5_walkNights) ∈ tb := tb_of (in_3 _ (List.mem_of_getElem? (i := 112) rfl)) rfl
theorem wd_656 : (Cond.code yX5_walkNights cX5_walkNights 3 none) ∈ tb := tb_of (in_3 _ (List.mem_of_getElem? (i := 113) rfl)) rfl
theorem wd_657 : (Cond.methodLink RX5 222 yX2_walk) ∈ tb := tb_of (in_3 _ (List.mem_of_getElem? (i := 114) rfl)) rfl
theorem wd_658 : (Cond.methodLink RL 79 yX5_comes) ∈ tb := tb_of (in_3 _ (List.mem_of_getElem? (i := 115) rfl)) rfl
theorem wd_659 : (Cond.instanceMethod yX5_comes) ∈ tb := tb_of (in_3 _ (List.mem_of_getElem? (i := 116) rfl)) rfl
theorem wd_660 : (Cond.selects RX5 yX5_comes yX5_comes) ∈ tb := tb_of (in_3 _ (List.mem_of_getElem? (i := 117) rfl)) rfl
theorem wd_661 : (Cond.code yX5_comes cX5_comes 4 (some .int)) ∈ tb := tb_of (in_3 _ (List.mem_of_getElem? (i := 118) rfl)) rfl
theorem wd_662 : (Cond.methodLink RL 83 yX5_meet) ∈ tb := tb_of (in_3 _ (List.mem_of_getElem? (i := 119) rfl)) rfl
theorem wd_663 : (Cond.instanceMethod yX5_meet) ∈ tb := tb_of (in_3 _ (List.mem_of_getElem? (i := 120) rfl)) rfl
theorem wd_664 : (Cond.selects RX5 yX5_meet yX5_meet) ∈ tb := tb_of (in_3 _ (List.mem_of_getElem? (i := 121) rfl)) rfl
theorem wd_665 : (Cond.code yX5_meet cX5_meet 6 (some .int)) ∈ tb := tb_of (in_3 _ (List.mem_of_getElem? (i := 122) rfl)) rfl
theorem wd_666 : (Cond.methodLink RL 87 yX5_alike) ∈ tb := tb_of (in_3 _ (List.mem_of_getElem? (i := 123) rfl)) rfl
theorem wd_667 : (Cond.instanceMethod yX5_alike) ∈ tb := tb_of (in_3 _ (List.mem_of_getElem? (i := 124) rfl)) rfl
theorem wd_668 : (Cond.selects RX5 yX5_alike yX5_alike) ∈ tb := tb_of (in_3 _ (List.mem_of_getElem? (i := 125) rfl)) rfl
theorem wd_669 : (Cond.code yX5_alike cX5_alike 6 (some .int)) ∈ tb := tb_of (in_3 _ (List.mem_of_getElem? (i := 126) rfl)) rfl
theorem wd_670 : (Cond.methodLink RX5 226 yX5_alikeOnEnd) ∈ tb := tb_of (in_3 _ (List.mem_of_getElem? (i := 127) rfl)) rfl
theorem wd_671 : (Cond.static yX5_alikeOnEnd) ∈ tb := tb_of (in_3 _ (List.mem_of_getElem? (i := 128) rfl)) rfl
theorem wd_672 : (Cond.code yX5_alikeOnEnd cX5_alikeOnEnd 3 (some .int)) ∈ tb := tb_of (in_3 _ (List.mem_of_getElem? (i := 129) rfl)) rfl
theorem wd_673 : (Cond.methodLink RX5 340 yX2_stitchRound) ∈ tb := tb_of (in_3 _ (List.mem_of_getElem? (i := 130) rfl)) rfl
theorem wd_674 : (Cond.instanceMethod yX2_stitchRound) ∈ tb := tb_of (in_3 _ (List.mem_of_getElem? (i := 131) rfl)) rfl
theorem wd_675 : (Cond.selects RX2 yX2_stitchRound yX2_stitchRound) ∈ tb := tb_of (in_3 _ (List.mem_of_getElem? (i := 132) rfl)) rfl
theorem wd_676 : (Cond.code yX2_stitchRound cX2_stitchRound 2 (some .int)) ∈ tb := tb_of (in_3 _ (List.mem_of_getElem? (i := 133) rfl)) rfl
theorem wd_677 : (Cond.methodLink RX5 230 yX5_leastTurn) ∈ tb := tb_of (in_3 _ (List.mem_of_getElem? (i := 134) rfl)) rfl
theorem wd_678 : (Cond.static yX5_leastTurn) ∈ tb := tb_of (in_3 _ (List.mem_of_getElem? (i := 135) rfl)) rfl
theorem wd_679 : (Cond.code yX5_leastTurn cX5_leastTurn 3 (some .int)) ∈ tb := tb_of (in_3 _ (List.mem_of_getElem? (i := 136) rfl)) rfl
theorem wd_680 : (Cond.methodLink RX5 343 yX5_isTurned) ∈ tb := tb_of (in_3 _ (List.mem_of_getElem? (i := 137) rfl)) rfl
theorem wd_681 : (Cond.static yX5_isTurned) ∈ tb := tb_of (in_3 _ (List.mem_of_getElem? (i := 138) rfl)) rfl
theorem wd_682 : (Cond.code yX5_isTurned cX5_isTurned 4 (some .boolean)) ∈ tb := tb_of (in_3 _ (List.mem_of_getElem? (i := 139) rfl)) rfl
theorem wd_683 : (Cond.methodLink RL 91 yX5_anew) ∈ tb := tb_of (in_3 _ (List.mem_of_getElem? (i := 140) rfl)) rfl
theorem wd_684 : (Cond.instanceMethod yX5_anew) ∈ tb := tb_of (in_3 _ (List.mem_of_getElem? (i := 141) rfl)) rfl
theorem wd_685 : (Cond.selects RX5 yX5_anew yX5_anew) ∈ tb := tb_of (in_3 _ (List.mem_of_getElem? (i := 142) rfl)) rfl
theorem wd_686 : (Cond.code yX5_anew cX5_anew 11 (some .int)) ∈ tb := tb_of (in_3 _ (List.mem_of_getElem? (i := 143) rfl)) rfl
theorem wd_687 : (Cond.methodLink RX5 233 yX5_farBehind) ∈ tb := tb_of (in_3 _ (List.mem_of_getElem? (i := 144) rfl)) rfl
theorem wd_689 : (Cond.instanceMethod yX5_farBehind) ∈ tb := tb_of (in_3 _ (List.mem_of_getElem? (i := 146) rfl)) rfl
theorem wd_690 : (Cond.code yX5_farBehind cX5_farBehind 6 (some .int)) ∈ tb := tb_of (in_3 _ (List.mem_of_getElem? (i := 147) rfl)) rfl
theorem wd_691 : (Cond.methodLink RX5 334 yX5_far) ∈ tb := tb_of (in_3 _ (List.mem_of_getElem? (i := 148) rfl)) rfl
theorem wd_692 : (Cond.static yX5_far) ∈ tb := tb_of (in_3 _ (List.mem_of_getElem? (i := 149) rfl)) rfl
theorem wd_693 : (Cond.code yX5_far cX5_far 2 (some .int)) ∈ tb := tb_of (in_3 _ (List.mem_of_getElem? (i := 150) rfl)) rfl
theorem wd_694 : (Cond.methodLink RX5 316 Lib.Math.abs.name) ∈ tb := tb_of (in_3 _ (List.mem_of_getElem? (i := 151) rfl)) rfl
theorem wd_695 : (Cond.static Lib.Math.abs.name) ∈ tb := tb_of (in_3 _ (List.mem_of_getElem? (i := 152) rfl)) rfl
theorem wd_696 : (Cond.code Lib.Math.abs.name cJ9_abs_0f7a4 1 (some .int)) ∈ tb := tb_of (in_3 _ (List.mem_of_getElem? (i := 153) rfl)) rfl
theorem wd_697 : (Cond.methodLink RL 96 yX5_drain) ∈ tb := tb_of (in_3 _ (List.mem_of_getElem? (i := 154) rfl)) rfl
theorem wd_698 : (Cond.instanceMethod yX5_drain) ∈ tb := tb_of (in_3 _ (List.mem_of_getElem? (i := 155) rfl)) rfl
theorem wd_699 : (Cond.selects RX5 yX5_drain yX5_drain) ∈ tb := tb_of (in_3 _ (List.mem_of_getElem? (i := 156) rfl)) rfl
theorem wd_700 : (Cond.code yX5_drain cX5_drain 7 (some .int)) ∈ tb := tb_of (in_3 _ (List.mem_of_getElem? (i := 157) rfl)) rfl
theorem wd_701 : (Cond.constantLong RX5 237 (-1)) ∈ tb := tb_of (in_3 _ (List.mem_of_getElem? (i := 158) rfl)) rfl
theorem wd_702 : (Cond.methodLink RL 100 yX5_turn) ∈ tb := tb_of (in_3 _ (List.mem_of_getElem? (i := 159) rfl)) rfl
theorem wd_703 : (Cond.instanceMethod yX5_turn) ∈ tb := tb_of (in_3 _ (List.mem_of_getElem? (i := 160) rfl)) rfl
theorem wd_704 : (Cond.selects RX5 yX5_turn yX5_turn) ∈ tb := tb_of (in_3 _ (List.mem_of_getElem? (i := 161) rfl)) rfl
theorem wd_705 : (Cond.code yX5_turn cX5_turn 7 (some .int)) ∈ tb := tb_of (in_3 _ (List.mem_of_getElem? (i := 162) rfl)) rfl
theorem wd_706 : (Cond.methodLink RL 104 yX5_share) ∈ tb := tb_of (in_3 _ (List.mem_of_getElem? (i := 163) rfl)) rfl
theorem wd_707 : (Cond.instanceMethod yX5_share) ∈ tb := tb_of (in_3 _ (List.mem_of_getElem? (i := 164) rfl)) rfl
theorem wd_708 : (Cond.selects RX5 yX5_share yX5_share) ∈ tb := tb_of (in_3 _ (List.mem_of_getElem? (i := 165) rfl)) rfl
theorem wd_709 : (Cond.code yX5_share cX5_share 3 (some .long)) ∈ tb := tb_of (in_3 _ (List.mem_of_getElem? (i := 166) rfl)) rfl
theorem wd_710 : (Cond.constantLong RX5 245 64) ∈ tb := tb_of (in_3 _ (List.mem_of_getElem? (i := 167) rfl)) rfl
theorem wd_711 : (Cond.methodLink RX5 247 yX5_lowest) ∈ tb := tb_of (in_3 _ (List.mem_of_getElem? (i := 168) rfl)) rfl
theorem wd_712 : (Cond.static yX5_lowest) ∈ tb := tb_of (in_3 _ (List.mem_of_getElem? (i := 169) rfl)) rfl
theorem wd_713 : (Cond.code yX5_lowest cX5_lowest 12 (some .long)) ∈ tb := tb_of (in_3 _ (List.mem_of_getElem? (i := 170) rfl)) rfl
theorem wd_714 : (Cond.methodLink RX5 319 yJ9_max_f86c9) ∈ tb := tb_of (in_3 _ (List.mem_of_getElem? (i := 171) rfl)) rfl
theorem wd_715 : (Cond.static yJ9_max_f86c9) ∈ tb := tb_of (in_3 _ (List.mem_of_getElem? (i := 172) rfl)) rfl
theorem wd_716 : (Cond.code yJ9_max_f86c9 cJ9_max_f86c9 4 (some .long)) ∈ tb := tb_of (in_3 _ (List.mem_of_getElem? (i := 173) rfl)) rfl
theorem wd_717 : (Cond.methodLink RL 108 yX5_judge) ∈ tb := tb_of (in_3 _ (List.mem_of_getElem? (i := 174) rfl)) rfl
theorem wd_718 : (Cond.instanceMethod yX5_judge) ∈ tb := tb_of (in_3 _ (List.mem_of_getElem? (i := 175) rfl)) rfl
theorem wd_719 : (Cond.selects RX5 yX5_judge yX5_judge) ∈ tb := tb_of (in_3 _ (List.mem_of_getElem? (i := 176) rfl)) rfl
theorem wd_720 : (Cond.code yX5_judge cX5_judge 4 (some .int)) ∈ tb := tb_of (in_3 _ (List.mem_of_getElem? (i := 177) rfl)) rfl
theorem wd_721 : (Cond.methodLink RX5 251 yX5_toldOfRefusal) ∈ tb := tb_of (in_3 _ (List.mem_of_getElem? (i := 178) rfl)) rfl
theorem wd_723 : (Cond.instanceMethod yX5_toldOfRefusal) ∈ tb := tb_of (in_3 _ (List.mem_of_getElem? (i := 180) rfl)) rfl
theorem wd_724 : (Cond.code yX5_toldOfRefusal cX5_toldOfRefusal 4 (some .int)) ∈ tb := tb_of (in_3 _ (List.mem_of_getElem? (i := 181) rfl)) rfl
theorem wd_725 : (Cond.methodLink RX5 261 yX5_toldRefusal) ∈ tb := tb_of (in_3 _ (List.mem_of_getElem? (i := 182) rfl)) rfl
theorem wd_727 : (Cond.instanceMethod yX5_toldRefusal) ∈ tb := tb_of (in_3 _ (List.mem_of_getElem? (i := 184) rfl)) rfl
theorem wd_728 : (Cond.code yX5_toldRefusal cX5_toldRefusal 3 (some .int)) ∈ tb := tb_of (in_3 _ (List.mem_of_getElem? (i := 185) rfl)) rfl
theorem wd_729 : (Cond.methodLink RX5 254 yX5_firstOtherwise) ∈ tb := tb_of (in_3 _ (List.mem_of_getElem? (i := 186) rfl)) rfl
theorem wd_731 : (Cond.instanceMethod yX5_firstOtherwise) ∈ tb := tb_of (in_3 _ (List.mem_of_getElem? (i := 188) rfl)) rfl
theorem wd_732 : (Cond.code yX5_firstOtherwise cX5_firstOtherwise 4 (some .int)) ∈ tb := tb_of (in_3 _ (List.mem_of_getElem? (i := 189) rfl)) rfl
theorem wd_733 : (Cond.methodLink RX5 304 yX1_read) ∈ tb := tb_of (in_3 _ (List.mem_of_getElem? (i := 190) rfl)) rfl
theorem wd_734 : (Cond.methodLink RL 112 yX5_kinds) ∈ tb := tb_of (in_3 _ (List.mem_of_getElem? (i := 191) rfl)) rfl
theorem wd_735 : (Cond.instanceMethod yX5_kinds) ∈ tb := tb_of (in_3 _ (List.mem_of_getElem? (i := 192) rfl)) rfl
theorem wd_736 : (Cond.selects RX5 yX5_kinds yX5_kinds) ∈ tb := tb_of (in_3 _ (List.mem_of_getElem? (i := 193) rfl)) rfl
theorem wd_737 : (Cond.code yX5_kinds cX5_kinds 8 (some .int)) ∈ tb := tb_of (in_3 _ (List.mem_of_getElem? (i := 194) rfl)) rfl
theorem wd_738 : (Cond.methodLink RL 116 yX5_begins) ∈ tb := tb_of (in_3 _ (List.mem_of_getElem? (i := 195) rfl)) rfl
theorem wd_739 : (Cond.instanceMethod yX5_begins) ∈ tb := tb_of (in_3 _ (List.mem_of_getElem? (i := 196) rfl)) rfl
theorem wd_740 : (Cond.selects RX5 yX5_begins yX5_begins) ∈ tb := tb_of (in_3 _ (List.mem_of_getElem? (i := 197) rfl)) rfl
theorem wd_741 : (Cond.code yX5_begins cX5_begins 3 (some .long)) ∈ tb := tb_of (in_3 _ (List.mem_of_getElem? (i := 198) rfl)) rfl
theorem wd_742 : (Cond.methodLink RX5 258 yX5_bitsSo) ∈ tb := tb_of (in_3 _ (List.mem_of_getElem? (i := 199) rfl)) rfl
theorem wd_744 : (Cond.instanceMethod yX5_bitsSo) ∈ tb := tb_of (in_3 _ (List.mem_of_getElem? (i := 201) rfl)) rfl
theorem wd_745 : (Cond.code yX5_bitsSo cX5_bitsSo 9 (some .long)) ∈ tb := tb_of (in_3 _ (List.mem_of_getElem? (i := 202) rfl)) rfl
theorem wd_746 : (Cond.methodLink RL 120 yX5_ways) ∈ tb := tb_of (in_3 _ (List.mem_of_getElem? (i := 203) rfl)) rfl
theorem wd_747 : (Cond.instanceMethod yX5_ways) ∈ tb := tb_of (in_3 _ (List.mem_of_getElem? (i := 204) rfl)) rfl
theorem wd_748 : (Cond.selects RX5 yX5_ways yX5_ways) ∈ tb := tb_of (in_3 _ (List.mem_of_getElem? (i := 205) rfl)) rfl
theorem wd_749 : (Cond.code yX5_ways cX5_ways 5 (some .int)) ∈ tb := tb_of (in_3 _ (List.mem_of_getElem? (i := 206) rfl)) rfl
theorem wd_750 : (Cond.methodLink RL 124 yX5_whose) ∈ tb := tb_of (in_3 _ (List.mem_of_getElem? (i := 207) rfl)) rfl
theorem wd_751 : (Cond.instanceMethod yX5_whose) ∈ tb := tb_of (in_3 _ (List.mem_of_getElem? (i := 208) rfl)) rfl
theorem wd_752 : (Cond.selects RX5 yX5_whose yX5_whose) ∈ tb := tb_of (in_3 _ (List.mem_of_getElem? (i := 209) rfl)) rfl
theorem wd_753 : (Cond.code yX5_whose cX5_whose 5 (some .int)) ∈ tb := tb_of (in_3 _ (List.mem_of_getElem? (i := 210) rfl)) rfl
theorem wd_754 : (Cond.methodLink RL 128 yX5_laws) ∈ tb := tb_of (in_3 _ (List.mem_of_getElem? (i := 211) rfl)) rfl
theorem wd_755 : (Cond.instanceMethod yX5_laws) ∈ tb := tb_of (in_3 _ (List.mem_of_getElem? (i := 212) rfl)) rfl
theorem wd_756 : (Cond.selects RX5 yX5_laws yX5_laws) ∈ tb := tb_of (in_3 _ (List.mem_of_getElem? (i := 213) rfl)) rfl
theorem wd_757 : (Cond.code yX5_laws cX5_laws 6 (some .int)) ∈ tb := tb_of (in_3 _ (List.mem_of_getElem? (i := 214) rfl)) rfl
theorem wd_758 : (Cond.methodLink RL 132 yX5_film) ∈ tb := tb_of (in_3 _ (List.mem_of_getElem? (i := 215) rfl)) rfl
theorem wd_759 : (Cond.instanceMethod yX5_film) ∈ tb := tb_of (in_3 _ (List.mem_of_getElem? (i := 216) rfl)) rfl
theorem wd_760 : (Cond.selects RX5 yX5_film yX5_film) ∈ tb := tb_of (in_3 _ (List.mem_of_getElem? (i := 217) rfl)) rfl
theorem wd_761 : (Cond.code yX5_film cX5_film 6 (some .int)) ∈ tb := tb_of (in_3 _ (List.mem_of_getElem? (i := 218) rfl)) rfl
theorem wd_762 : (Cond.methodLink RX5 271 yX1_becomeRow) ∈ tb := tb_of (in_3 _ (List.mem_of_getElem? (i := 219) rfl)) rfl
theorem wd_763 : (Cond.instanceMethod yX1_becomeRow) ∈ tb := tb_of (in_3 _ (List.mem_of_getElem? (i := 220) rfl)) rfl
theorem wd_764 : (Cond.selects RX1 yX1_becomeRow yX1_becomeRow) ∈ tb := tb_of (in_3 _ (List.mem_of_getElem? (i := 221) rfl)) rfl
theorem wd_765 : (Cond.code yX1_becomeRow cX1_becomeRow 3 none) ∈ tb := tb_of (in_3 _ (List.mem_of_getElem? (i := 222) rfl)) rfl
theorem wd_766 : (Cond.methodLink RX1 19 Lib.Math.min.name) ∈ tb := tb_of (in_3 _ (List.mem_of_getElem? (i := 223) rfl)) rfl
theorem wd_767 : (Cond.methodLink RX1 25 Lib.Math.max.name) ∈ tb := tb_of (in_3 _ (List.mem_of_getElem? (i := 224) rfl)) rfl
theorem wd_768 : (Cond.methodLink RX1 31 yJ7_fill_53178) ∈ tb := tb_of (in_3 _ (List.mem_of_getElem? (i := 225) rfl)) rfl
theorem wd_769 : (Cond.static yJ7_fill_53178) ∈ tb := tb_of (in_3 _ (List.mem_of_getElem? (i := 226) rfl)) rfl
theorem wd_770 : (Cond.code yJ7_fill_53178 cJ7_fill_53178 4 none) ∈ tb := tb_of (in_3 _ (List.mem_of_getElem? (i := 227) rfl)) rfl
theorem wd_771 : (Cond.methodLink RX5 274 yX1_write) ∈ tb := tb_of (in_3 _ (List.mem_of_getElem? (i := 228) rfl)) rfl
theorem wd_772 : (Cond.instanceMethod yX1_write) ∈ tb := tb_of (in_3 _ (List.mem_of_getElem? (i := 229) rfl)) rfl
theorem wd_773 : (Cond.selects RX1 yX1_write yX1_write) ∈ tb := tb_of (in_3 _ (List.mem_of_getElem? (i := 230) rfl)) rfl
theorem wd_774 : (Cond.code yX1_write cX1_write 3 none) ∈ tb := tb_of (in_3 _ (List.mem_of_getElem? (i := 231) rfl)) rfl
theorem wd_775 : (Cond.methodLink RL 136 yX5_drawn) ∈ tb := tb_of (in_3 _ (List.mem_of_getElem? (i := 232) rfl)) rfl
theorem wd_776 : (Cond.instanceMethod yX5_drawn) ∈ tb := tb_of (in_3 _ (List.mem_of_getElem? (i := 233) rfl)) rfl
theorem wd_777 : (Cond.selects RX5 yX5_drawn yX5_drawn) ∈ tb := tb_of (in_3 _ (List.mem_of_getElem? (i := 234) rfl)) rfl
theorem wd_778 : (Cond.code yX5_drawn cX5_drawn 4 (some .int)) ∈ tb := tb_of (in_3 _ (List.mem_of_getElem? (i := 235) rfl)) rfl
theorem wd_779 : (Cond.constant RX5 277 100000) ∈ tb := tb_of (in_3 _ (List.mem_of_getElem? (i := 236) rfl)) rfl
theorem wd_780 : (Cond.methodLink RX5 278 yX5_passFloods) ∈ tb := tb_of (in_3 _ (List.mem_of_getElem? (i := 237) rfl)) rfl
theorem wd_782 : (Cond.instanceMethod yX5_passFloods) ∈ tb := tb_of (in_3 _ (List.mem_of_getElem? (i := 239) rfl)) rfl
theorem wd_783 : (Cond.code yX5_passFloods cX5_passFloods 6 (some .int)) ∈ tb := tb_of (in_4 _ (List.mem_of_getElem? (i := 0) rfl)) rfl
theorem wd_784 : (Cond.constantLong RX5 327 48271) ∈ tb := tb_of (in_4 _ (List.mem_of_getElem? (i := 1) rfl)) rfl
theorem wd_785 : (Cond.constantLong RX5 329 2147483647) ∈ tb := tb_of (in_4 _ (List.mem_of_getElem? (i := 2) rfl)) rfl
theorem wd_786 : (Cond.methodLink RL 140 yX5_odds) ∈ tb := tb_of (in_4 _ (List.mem_of_getElem? (i := 3) rfl)) rfl
theorem wd_787 : (Cond.instanceMethod yX5_odds) ∈ tb := tb_of (in_4 _ (List.mem_of_getElem? (i := 4) rfl)) rfl
theorem wd_788 : (Cond.selects RX5 yX5_odds yX5_odds) ∈ tb := tb_of (in_4 _ (List.mem_of_getElem? (i := 5) rfl)) rfl
theorem wd_789 : (Cond.code yX5_odds cX5_odds 7 (some .long)) ∈ tb := tb_of (in_4 _ (List.mem_of_getElem? (i := 6) rfl)) rfl
theorem wd_790 : (Cond.methodLink RL 145 yX5_image) ∈ tb := tb_of (in_4 _ (List.mem_of_getElem? (i := 7) rfl)) rfl
theorem wd_791 : (Cond.instanceMethod yX5_image) ∈ tb := tb_of (in_4 _ (List.mem_of_getElem? (i := 8) rfl)) rfl
theorem wd_792 : (Cond.selects RX5 yX5_image yX5_image) ∈ tb := tb_of (in_4 _ (List.mem_of_getElem? (i := 9) rfl)) rfl
theorem wd_793 : (Cond.code yX5_image cX5_image 1 (some .int)) ∈ tb := tb_of (in_4 _ (List.mem_of_getElem? (i := 10) rfl)) rfl
theorem wd_794 : (Cond.methodLink RL 149 yX5_back) ∈ tb := tb_of (in_4 _ (List.mem_of_getElem? (i := 11) rfl)) rfl
theorem wd_795 : (Cond.instanceMethod yX5_back) ∈ tb := tb_of (in_4 _ (List.mem_of_getElem? (i := 12) rfl)) rfl
theorem wd_796 : (Cond.selects RX5 yX5_back yX5_back) ∈ tb := tb_of (in_4 _ (List.mem_of_getElem? (i := 13) rfl)) rfl
theorem wd_797 : (Cond.code yX5_back cX5_back 1 (some .int)) ∈ tb := tb_of (in_4 _ (List.mem_of_getElem? (i := 14) rfl)) rfl
theorem wd_798 : (Cond.methodLink RL 153 yX5_sheet) ∈ tb := tb_of (in_4 _ (List.mem_of_getElem? (i := 15) rfl)) rfl
theorem wd_799 : (Cond.instanceMethod yX5_sheet) ∈ tb := tb_of (in_4 _ (List.mem_of_getElem? (i := 16) rfl)) rfl
theorem wd_800 : (Cond.selects RX5 yX5_sheet yX5_sheet) ∈ tb := tb_of (in_4 _ (List.mem_of_getElem? (i := 17) rfl)) rfl
theorem wd_801 : (Cond.code yX5_sheet cX5_sheet 4 (some .int)) ∈ tb := tb_of (in_4 _ (List.mem_of_getElem? (i := 18) rfl)) rfl
theorem wd_802 : (Cond.methodLink RL 157 yX5_cell) ∈ tb := tb_of (in_4 _ (List.mem_of_getElem? (i := 19) rfl)) rfl
theorem wd_803 : (Cond.instanceMethod yX5_cell) ∈ tb := tb_of (in_4 _ (List.mem_of_getElem? (i := 20) rfl)) rfl
theorem wd_804 : (Cond.selects RX5 yX5_cell yX5_cell) ∈ tb := tb_of (in_4 _ (List.mem_of_getElem? (i := 21) rfl)) rfl
theorem wd_805 : (Cond.code yX5_cell cX5_cell 5 (some .int)) ∈ tb := tb_of (in_4 _ (List.mem_of_getElem? (i := 22) rfl)) rfl
theorem wd_806 : (Cond.methodLink RX5 285 yX1_has) ∈ tb := tb_of (in_4 _ (List.mem_of_getElem? (i := 23) rfl)) rfl
theorem wd_807 : (Cond.methodLink RL 161 yX5_copy) ∈ tb := tb_of (in_4 _ (List.mem_of_getElem? (i := 24) rfl)) rfl
theorem wd_808 : (Cond.instanceMethod yX5_copy) ∈ tb := tb_of (in_4 _ (List.mem_of_getElem? (i := 25) rfl)) rfl
theorem wd_809 : (Cond.selects RX5 yX5_copy yX5_copy) ∈ tb := tb_of (in_4 _ (List.mem_of_getElem? (i := 26) rfl)) rfl
theorem wd_810 : (Cond.code yX5_copy cX5_copy 8 (some .int)) ∈ tb := tb_of (in_4 _ (List.mem_of_getElem? (i := 27) rfl)) rfl
theorem wd_811 : (Cond.methodLink RX5 291 yX1_hasRun) ∈ tb := tb_of (in_4 _ (List.mem_of_getElem? (i := 28) rfl)) rfl
theorem wd_812 : (Cond.instanceMethod yX1_hasRun) ∈ tb := tb_of (in_4 _ (List.mem_of_getElem? (i := 29) rfl)) rfl
theorem wd_813 : (Cond.selects RX1 yX1_hasRun yX1_hasRun) ∈ tb := tb_of (in_4 _ (List.mem_of_getElem? (i := 30) rfl)) rfl
theorem wd_814 : (Cond.code yX1_hasRun cX1_hasRun 3 (some .boolean)) ∈ tb := tb_of (in_4 _ (List.mem_of_getElem? (i := 31) rfl)) rfl
theorem wd_815 : (Cond.methodLink RX5 298 arraycopyName) ∈ tb := tb_of (in_4 _ (List.mem_of_getElem? (i := 32) rfl)) rfl
theorem wd_816 : (Cond.methodLink RL 166 yX5_sleepersBy) ∈ tb := tb_of (in_4 _ (List.mem_of_getElem? (i := 33) rfl)) rfl
theorem wd_817 : (Cond.instanceMethod yX5_sleepersBy) ∈ tb := tb_of (in_4 _ (List.mem_of_getElem? (i := 34) rfl)) rfl
theorem wd_818 : (Cond.selects RX5 yX5_sleepersBy yX5_sleepersBy) ∈ tb := tb_of (in_4 _ (List.mem_of_getElem? (i := 35) rfl)) rfl
theorem wd_819 : (Cond.code yX5_sleepersBy cX5_sleepersBy 8 (some .int)) ∈ tb := tb_of (in_4 _ (List.mem_of_getElem? (i := 36) rfl)) rfl
theorem wd_820 : (Cond.methodLink RX5 307 yX5_sleeper) ∈ tb := tb_of (in_4 _ (List.mem_of_getElem? (i := 37) rfl)) rfl
theorem wd_821 : (Cond.methodLink RL 170 yX5_taken) ∈ tb := tb_of (in_4 _ (List.mem_of_getElem? (i := 38) rfl)) rfl
theorem wd_822 : (Cond.instanceMethod yX5_taken) ∈ tb := tb_of (in_4 _ (List.mem_of_getElem? (i := 39) rfl)) rfl
theorem wd_823 : (Cond.selects RX5 yX5_taken yX5_taken) ∈ tb := tb_of (in_4 _ (List.mem_of_getElem? (i := 40) rfl)) rfl
theorem wd_824 : (Cond.code yX5_taken cX5_taken 5 (some .int)) ∈ tb := tb_of (in_4 _ (List.mem_of_getElem? (i := 41) rfl)) rfl
theorem wd_825 : (Cond.methodLink RX5 313 yX2_isA) ∈ tb := tb_of (in_4 _ (List.mem_of_getElem? (i := 42) rfl)) rfl
theorem wd_826 : (Cond.instanceMethod yX2_isA) ∈ tb := tb_of (in_4 _ (List.mem_of_getElem? (i := 43) rfl)) rfl
theorem wd_827 : (Cond.selects RX2 yX2_isA yX2_isA) ∈ tb := tb_of (in_4 _ (List.mem_of_getElem? (i := 44) rfl)) rfl
theorem wd_828 : (Cond.code yX2_isA cX2_isA 2 (some .boolean)) ∈ tb := tb_of (in_4 _ (List.mem_of_getElem? (i := 45) rfl)) rfl
theorem wd_829 : (Cond.classLink RL 10 RX6) ∈ tb := tb_of (in_4 _ (List.mem_of_getElem? (i := 46) rfl)) rfl
theorem wd_830 : (Cond.instantiable RX6 37) ∈ tb := tb_of (in_4 _ (List.mem_of_getElem? (i := 47) rfl)) rfl
theorem wd_831 : (Cond.methodLink RL 12 yX6_init) ∈ tb := tb_of (in_4 _ (List.mem_of_getElem? (i := 48) rfl)) rfl
theorem wd_832 : (Cond.instanceMethod yX6_init) ∈ tb := tb_of (in_4 _ (List.mem_of_getElem? (i := 49) rfl)) rfl
theorem wd_833 : (Cond.code yX6_init cX6_init 2 none) ∈ tb := tb_of (in_4 _ (List.mem_of_getElem? (i := 50) rfl)) rfl
theorem wd_834 : (Cond.methodLink RX6 1 objectInit) ∈ tb := tb_of (in_4 _ (List.mem_of_getElem? (i := 51) rfl)) rfl
theorem wd_835 : (Cond.methodLink RX6 75 yX6_text) ∈ tb := tb_of (in_4 _ (List.mem_of_getElem? (i := 52) rfl)) rfl
theorem wd_836 : (Cond.instanceMethod yX6_text) ∈ tb := tb_of (in_4 _ (List.mem_of_getElem? (i := 53) rfl)) rfl
theorem wd_837 : (Cond.selects RX6 yX6_text yX6_text) ∈ tb := tb_of (in_4 _ (List.mem_of_getElem? (i := 54) rfl)) rfl
theorem wd_838 : (Cond.code yX6_text cX6_text 3 (some .int)) ∈ tb := tb_of (in_4 _ (List.mem_of_getElem? (i := 55) rfl)) rfl
theorem wd_839 : (Cond.methodLink RX6 154 yX6_next) ∈ tb := tb_of (in_4 _ (List.mem_of_getElem? (i := 56) rfl)) rfl
theorem wd_841 : (Cond.instanceMethod yX6_next) ∈ tb := tb_of (in_4 _ (List.mem_of_getElem? (i := 58) rfl)) rfl
theorem wd_842 : (Cond.code yX6_next cX6_next 3 none) ∈ tb := tb_of (in_4 _ (List.mem_of_getElem? (i := 59) rfl)) rfl
theorem wd_843 : (Cond.methodLink RX6 79 yX6_in) ∈ tb := tb_of (in_4 _ (List.mem_of_getElem? (i := 60) rfl)) rfl
theorem wd_844 : (Cond.static yX6_in) ∈ tb := tb_of (in_4 _ (List.mem_of_getElem? (i := 61) rfl)) rfl
theorem wd_845 : (Cond.code yX6_in cX6_in 3 (some .boolean)) ∈ tb := tb_of (in_4 _ (List.mem_of_getElem? (i := 62) rfl)) rfl
theorem wd_846 : (Cond.methodLink RX6 127 yX6_wordFrom) ∈ tb := tb_of (in_4 _ (List.mem_of_getElem? (i := 63) rfl)) rfl
theorem wd_848 : (Cond.instanceMethod yX6_wordFrom) ∈ tb := tb_of (in_4 _ (List.mem_of_getElem? (i := 65) rfl)) rfl
theorem wd_849 : (Cond.code yX6_wordFrom cX6_wordFrom 6 (some .int)) ∈ tb := tb_of (in_4 _ (List.mem_of_getElem? (i := 66) rfl)) rfl
theorem wd_850 : (Cond.methodLink RX6 167 yX6_eRead) ∈ tb := tb_of (in_4 _ (List.mem_of_getElem? (i := 67) rfl)) rfl
theorem wd_852 : (Cond.instanceMethod yX6_eRead) ∈ tb := tb_of (in_4 _ (List.mem_of_getElem? (i := 69) rfl)) rfl
theorem wd_853 : (Cond.code yX6_eRead cX6_eRead 4 (some .boolean)) ∈ tb := tb_of (in_4 _ (List.mem_of_getElem? (i := 70) rfl)) rfl
theorem wd_854 : (Cond.constant RX6 157 100000) ∈ tb := tb_of (in_4 _ (List.mem_of_getElem? (i := 71) rfl)) rfl
theorem wd_855 : (Cond.methodLink RX6 144 yX6_puts) ∈ tb := tb_of (in_4 _ (List.mem_of_getElem? (i := 72) rfl)) rfl
theorem wd_857 : (Cond.instanceMethod yX6_puts) ∈ tb := tb_of (in_4 _ (List.mem_of_getElem? (i := 74) rfl)) rfl
theorem wd_858 : (Cond.code yX6_puts cX6_puts 2 none) ∈ tb := tb_of (in_4 _ (List.mem_of_getElem? (i := 75) rfl)) rfl
theorem wd_859 : (Cond.methodLink RX6 151 yX6_unwinds) ∈ tb := tb_of (in_4 _ (List.mem_of_getElem? (i := 76) rfl)) rfl
theorem wd_861 : (Cond.instanceMethod yX6_unwinds) ∈ tb := tb_of (in_4 _ (List.mem_of_getElem? (i := 78) rfl)) rfl
theorem wd_862 : (Cond.code yX6_unwinds cX6_unwinds 3 none) ∈ tb := tb_of (in_4 _ (List.mem_of_getElem? (i := 79) rfl)) rfl
theorem wd_863 : (Cond.methodLink RX6 137 yX6_rank) ∈ tb := tb_of (in_4 _ (List.mem_of_getElem? (i := 80) rfl)) rfl
theorem wd_864 : (Cond.static yX6_rank) ∈ tb := tb_of (in_4 _ (List.mem_of_getElem? (i := 81) rfl)) rfl
theorem wd_865 : (Cond.code yX6_rank cX6_rank 1 (some .int)) ∈ tb := tb_of (in_4 _ (List.mem_of_getElem? (i := 82) rfl)) rfl
theorem wd_866 : (Cond.methodLink RX6 158 yX6_opensOne) ∈ tb := tb_of (in_4 _ (List.mem_of_getElem? (i := 83) rfl)) rfl
theorem wd_868 : (Cond.instanceMethod yX6_opensOne) ∈ tb := tb_of (in_4 _ (List.mem_of_getElem? (i := 85) rfl)) rfl
theorem wd_869 : (Cond.code yX6_opensOne cX6_opensOne 2 (some .boolean)) ∈ tb := tb_of (in_4 _ (List.mem_of_getElem? (i := 86) rfl)) rfl
theorem wd_870 : (Cond.methodLink RX6 148 yX6_holds) ∈ tb := tb_of (in_4 _ (List.mem_of_getElem? (i := 87) rfl)) rfl
theorem wd_872 : (Cond.instanceMethod yX6_holds) ∈ tb := tb_of (in_4 _ (List.mem_of_getElem? (i := 89) rfl)) rfl
theorem wd_873 : (Cond.code yX6_holds cX6_holds 2 none) ∈ tb := tb_of (in_4 _ (List.mem_of_getElem? (i := 90) rfl)) rfl
theorem wd_874 : (Cond.methodLink RX6 161 yX6_signOf) ∈ tb := tb_of (in_4 _ (List.mem_of_getElem? (i := 91) rfl)) rfl
theorem wd_876 : (Cond.instanceMethod yX6_signOf) ∈ tb := tb_of (in_4 _ (List.mem_of_getElem? (i := 93) rfl)) rfl
theorem wd_877 : (Cond.code yX6_signOf cX6_signOf 1 (some .int)) ∈ tb := tb_of (in_4 _ (List.mem_of_getElem? (i := 94) rfl)) rfl
theorem wd_878 : (Cond.methodLink RX6 164 yX6_between) ∈ tb := tb_of (in_4 _ (List.mem_of_getElem? (i := 95) rfl)) rfl
theorem wd_880 : (Cond.instanceMethod yX6_between) ∈ tb := tb_of (in_4 _ (List.mem_of_getElem? (i := 97) rfl)) rfl
theorem wd_881 : (Cond.code yX6_between cX6_between 2 (some .boolean)) ∈ tb := tb_of (in_4 _ (List.mem_of_getElem? (i := 98) rfl)) rfl
theorem wd_882 : (Cond.fieldLink RX6 83 "BedsocksKeepRoadsModel" "sleepers" "I") ∈ tb := tb_of (in_4 _ (List.mem_of_getElem? (i := 99) rfl)) rfl
theorem wd_883 : (Cond.fieldLink RX6 7 "BedsocksKeepRoadsModel" "kind" "[I") ∈ tb := tb_of (in_4 _ (List.mem_of_getElem? (i := 100) rfl)) rfl
theorem wd_884 : (Cond.fieldLink RX6 13 "BedsocksKeepRoadsModel" "moreOf" "[I") ∈ tb := tb_of (in_4 _ (List.mem_of_getElem? (i := 101) rfl)) rfl
theorem wd_885 : (Cond.fieldLink RX6 16 "BedsocksKeepRoadsModel" "rows" "[I") ∈ tb := tb_of (in_4 _ (List.mem_of_getElem? (i := 102) rfl)) rfl
theorem wd_886 : (Cond.fieldLink RX6 19 "BedsocksKeepRoadsModel" "socks" "[I") ∈ tb := tb_of (in_4 _ (List.mem_of_getElem? (i := 103) rfl)) rfl
theorem wd_887 : (Cond.fieldLink RX6 22 "BedsocksKeepRoadsModel" "sockSize" "[I") ∈ tb := tb_of (in_4 _ (List.mem_of_getElem? (i := 104) rfl)) rfl
theorem wd_888 : (Cond.fieldLink RX6 86 "BedsocksKeepRoadsModel" "water" "J") ∈ tb := tb_of (in_4 _ (List.mem_of_getElem? (i := 105) rfl)) rfl
theorem wd_889 : (Cond.fieldLink RX6 94 "BedsocksKeepRoadsModel" "nights" "I") ∈ tb := tb_of (in_4 _ (List.mem_of_getElem? (i := 106) rfl)) rfl
theorem wd_890 : (Cond.fieldLink RX6 25 "BedsocksKeepRoadsModel" "tape" "[I") ∈ tb := tb_of (in_4 _ (List.mem_of_getElem? (i := 107) rfl)) rfl
theorem wd_891 : (Cond.fieldLink RX6 71 "BedsocksKeepRoadsModel" "taped" "I") ∈ tb := tb_of (in_4 _ (List.mem_of_getElem? (i := 108) rfl)) rfl
theorem wd_892 : (Cond.fieldLink RX6 28 "BedsocksKeepRoadsModel" "codes" "[I") ∈ tb := tb_of (in_4 _ (List.mem_of_getElem? (i := 109) rfl)) rfl
theorem wd_893 : (Cond.fieldLink RX6 31 "BedsocksKeepRoadsModel" "starts" "[I") ∈ tb := tb_of (in_4 _ (List.mem_of_getElem? (i := 110) rfl)) rfl
theorem wd_894 : (Cond.fieldLink RX6 97 "BedsocksKeepRoadsModel" "texts" "I") ∈ tb := tb_of (in_4 _ (List.mem_of_getElem? (i := 111) rfl)) rfl
theorem wd_895 : (Cond.fieldLink RX6 100 "BedsocksKeepRoadsModel" "rule" "I") ∈ tb := tb_of (in_4 _ (List.mem_of_getElem? (i := 112) rfl)) rfl
theorem wd_896 : (Cond.fieldLink RX6 277 "BedsocksKeepRoadsModel" "hasImage" "Z") ∈ tb := tb_of (in_4 _ (List.mem_of_getElem? (i := 113) rfl)) rfl
theorem wd_897 : (Cond.fieldLink RX6 34 "BedsocksKeepRoadsModel" "imageRows" "[I") ∈ tb := tb_of (in_4 _ (List.mem_of_getElem? (i := 114) rfl)) rfl
theorem wd_898 : (Cond.fieldLink RX6 281 "BedsocksKeepRoadsModel" "imageWater" "J") ∈ tb := tb_of (in_4 _ (List.mem_of_getElem? (i := 115) rfl)) rfl
theorem wd_899 : (Cond.fieldLink RX6 37 "BedsocksKeepRoadsModel" "imageHeld" "[I") ∈ tb := tb_of (in_4 _ (List.mem_of_getElem? (i := 116) rfl)) rfl
theorem wd_900 : (Cond.fieldLink RX6 40 "BedsocksKeepRoadsModel" "sheetSort" "[I") ∈ tb := tb_of (in_4 _ (List.mem_of_getElem? (i := 117) rfl)) rfl
theorem wd_901 : (Cond.fieldLink RX6 43 "BedsocksKeepRoadsModel" "sheetSize" "[I") ∈ tb := tb_of (in_4 _ (List.mem_of_getElem? (i := 118) rfl)) rfl
theorem wd_902 : (Cond.fieldLink RX6 46 "BedsocksKeepRoadsModel" "cells" "[I") ∈ tb := tb_of (in_4 _ (List.mem_of_getElem? (i := 119) rfl)) rfl
theorem wd_903 : (Cond.fieldLink RX6 49 "BedsocksKeepRoadsModel" "law" "[I") ∈ tb := tb_of (in_4 _ (List.mem_of_getElem? (i := 120) rfl)) rfl
theorem wd_904 : (Cond.fieldLink RX6 115 "BedsocksKeepRoadsModel" "at" "I") ∈ tb := tb_of (in_4 _ (List.mem_of_getElem? (i := 121) rfl)) rfl
theorem wd_905 : (Cond.fieldLink RX6 118 "BedsocksKeepRoadsModel" "begun" "I") ∈ tb := tb_of (in_4 _ (List.mem_of_getElem? (i := 122) rfl)) rfl
theorem wd_906 : (Cond.fieldLink RX6 121 "BedsocksKeepRoadsModel" "token" "I") ∈ tb := tb_of (in_4 _ (List.mem_of_getElem? (i := 123) rfl)) rfl
theorem wd_907 : (Cond.fieldLink RX6 124 "BedsocksKeepRoadsModel" "value" "I") ∈ tb := tb_of (in_4 _ (List.mem_of_getElem? (i := 124) rfl)) rfl
theorem wd_908 : (Cond.fieldLink RX6 52 "BedsocksKeepRoadsModel" "words" "[I") ∈ tb := tb_of (in_4 _ (List.mem_of_getElem? (i := 125) rfl)) rfl
theorem wd_909 : (Cond.fieldLink RX6 55 "BedsocksKeepRoadsModel" "held" "[I") ∈ tb := tb_of (in_4 _ (List.mem_of_getElem? (i := 126) rfl)) rfl
theorem wd_910 : (Cond.fieldLink RX6 134 "BedsocksKeepRoadsModel" "heldMany" "I") ∈ tb := tb_of (in_4 _ (List.mem_of_getElem? (i := 127) rfl)) rfl
theorem wd_911 : (Cond.fieldLink RX6 141 "BedsocksKeepRoadsModel" "opens" "I") ∈ tb := tb_of (in_4 _ (List.mem_of_getElem? (i := 128) rfl)) rfl
theorem wd_912 : (Cond.fieldLink RX6 131 "BedsocksKeepRoadsModel" "out" "I") ∈ tb := tb_of (in_4 _ (List.mem_of_getElem? (i := 129) rfl)) rfl
theorem wd_913 : (Cond.fieldLink RX6 58 "BedsocksKeepRoadsModel" "stack" "[I") ∈ tb := tb_of (in_4 _ (List.mem_of_getElem? (i := 130) rfl)) rfl
theorem wd_914 : (Cond.fieldLink RX6 61 "BedsocksKeepRoadsModel" "named" "[I") ∈ tb := tb_of (in_4 _ (List.mem_of_getElem? (i := 131) rfl)) rfl
theorem wd_915 : (Cond.fieldLink RX6 64 "BedsocksKeepRoadsModel" "cameTo" "[J") ∈ tb := tb_of (in_4 _ (List.mem_of_getElem? (i := 132) rfl)) rfl
theorem wd_916 : (Cond.fieldLink RX6 199 "BedsocksKeepRoadsModel" "miles" "I") ∈ tb := tb_of (in_4 _ (List.mem_of_getElem? (i := 133) rfl)) rfl
theorem wd_917 : (Cond.fieldLink RX6 68 "BedsocksKeepRoadsModel" "kept" "[I") ∈ tb := tb_of (in_4 _ (List.mem_of_getElem? (i := 134) rfl)) rfl
theorem wd_918 : (Cond.fieldLink RX6 270 "BedsocksKeepRoadsModel" "twosThen" "I") ∈ tb := tb_of (in_4 _ (List.mem_of_getElem? (i := 135) rfl)) rfl
theorem wd_994 : (Cond.arrayClass .long) ∈ tb := tb_of (in_4 _ (List.mem_of_getElem? (i := 211) rfl)) rfl
theorem wd_995 : (Cond.methodLink RL 17 yX6_count) ∈ tb := tb_of (in_4 _ (List.mem_of_getElem? (i := 212) rfl)) rfl
theorem wd_996 : (Cond.instanceMethod yX6_count) ∈ tb := tb_of (in_4 _ (List.mem_of_getElem? (i := 213) rfl)) rfl
theorem wd_997 : (Cond.selects RX6 yX6_count yX6_count) ∈ tb := tb_of (in_4 _ (List.mem_of_getElem? (i := 214) rfl)) rfl
theorem wd_998 : (Cond.code yX6_count cX6_count 2 (some .int)) ∈ tb := tb_of (in_4 _ (List.mem_of_getElem? (i := 215) rfl)) rfl
theorem wd_999 : (Cond.methodLink RX6 90 yX6_bitsOf) ∈ tb := tb_of (in_4 _ (List.mem_of_getElem? (i := 216) rfl)) rfl
theorem wd_1000 : (Cond.static yX6_bitsOf) ∈ tb := tb_of (in_4 _ (List.mem_of_getElem? (i := 217) rfl)) rfl
theorem wd_1001 : (Cond.code yX6_bitsOf cX6_bitsOf 4 (some .int)) ∈ tb := tb_of (in_4 _ (List.mem_of_getElem? (i := 218) rfl)) rfl
theorem wd_1002 : (Cond.methodLink RL 21 yX6_dusk) ∈ tb := tb_of (in_4 _ (List.mem_of_getElem? (i := 219) rfl)) rfl
theorem wd_1003 : (Cond.instanceMethod yX6_dusk) ∈ tb := tb_of (in_4 _ (List.mem_of_getElem? (i := 220) rfl)) rfl
theorem wd_1004 : (Cond.selects RX6 yX6_dusk yX6_dusk) ∈ tb := tb_of (in_4 _ (List.mem_of_getElem? (i := 221) rfl)) rfl
theorem wd_1005 : (Cond.code yX6_dusk cX6_dusk 3 (some .int)) ∈ tb := tb_of (in_4 _ (List.mem_of_getElem? (i := 222) rfl)) rfl
theorem wd_1006 : (Cond.methodLink RL 26 yX6_flood) ∈ tb := tb_of (in_4 _ (List.mem_of_getElem? (i := 223) rfl)) rfl
theorem wd_1007 : (Cond.instanceMethod yX6_flood) ∈ tb := tb_of (in_4 _ (List.mem_of_getElem? (i := 224) rfl)) rfl
theorem wd_1008 : (Cond.selects RX6 yX6_flood yX6_flood) ∈ tb := tb_of (in_4 _ (List.mem_of_getElem? (i := 225) rfl)) rfl
theorem wd_1009 : (Cond.code yX6_flood cX6_flood 4 (some .int)) ∈ tb := tb_of (in_4 _ (List.mem_of_getElem? (i := 226) rfl)) rfl
theorem wd_1010 : (Cond.methodLink RX6 103 yX6_isCell) ∈ tb := tb_of (in_4 _ (List.mem_of_getElem? (i := 227) rfl)) rfl
theorem wd_1011 : (Cond.static yX6_isCell) ∈ tb := tb_of (in_4 _ (List.mem_of_getElem? (i := 228) rfl)) rfl
theorem wd_1012 : (Cond.code yX6_isCell cX6_isCell 1 (some .boolean)) ∈ tb := tb_of (in_4 _ (List.mem_of_getElem? (i := 229) rfl)) rfl
theorem wd_1013 : (Cond.methodLink RX6 107 yX6_isWet) ∈ tb := tb_of (in_4 _ (List.mem_of_getElem? (i := 230) rfl)) rfl
theorem wd_1015 : (Cond.instanceMethod yX6_isWet) ∈ tb := tb_of (in_4 _ (List.mem_of_getElem? (i := 232) rfl)) rfl
theorem wd_1016 : (Cond.code yX6_isWet cX6_isWet 2 (some .boolean)) ∈ tb := tb_of (in_4 _ (List.mem_of_getElem? (i := 233) rfl)) rfl
theorem wd_1017 : (Cond.constantLong RX6 110 (-1)) ∈ tb := tb_of (in_4 _ (List.mem_of_getElem? (i := 234) rfl)) rfl
theorem wd_1018 : (Cond.methodLink RL 31 yX6_feed) ∈ tb := tb_of (in_4 _ (List.mem_of_getElem? (i := 235) rfl)) rfl
theorem wd_1019 : (Cond.instanceMethod yX6_feed) ∈ tb := tb_of (in_4 _ (List.mem_of_getElem? (i := 236) rfl)) rfl
theorem wd_1020 : (Cond.selects RX6 yX6_feed yX6_feed) ∈ tb := tb_of (in_4 _ (List.mem_of_getElem? (i := 237) rfl)) rfl
theorem wd_1021 : (Cond.code yX6_feed cX6_feed 8 (some .int)) ∈ tb := tb_of (in_4 _ (List.mem_of_getElem? (i := 238) rfl)) rfl
theorem wd_1022 : (Cond.methodLink RX6 112 yX6_isByte) ∈ tb := tb_of (in_4 _ (List.mem_of_getElem? (i := 239) rfl)) rfl
theorem wd_1023 : (Cond.static yX6_isByte) ∈ tb := tb_of (in_5 _ (List.mem_of_getElem? (i := 0) rfl)) rfl
theorem wd_1024 : (Cond.code yX6_isByte cX6_isByte 1 (some .boolean)) ∈ tb := tb_of (in_5 _ (List.mem_of_getElem? (i := 1) rfl)) rfl
theorem wd_1025 : (Cond.methodLink RL 36 yX6_text) ∈ tb := tb_of (in_5 _ (List.mem_of_getElem? (i := 2) rfl)) rfl
theorem wd_1026 : (Cond.methodLink RL 40 yX6_force) ∈ tb := tb_of (in_5 _ (List.mem_of_getElem? (i := 3) rfl)) rfl
theorem wd_1027 : (Cond.instanceMethod yX6_force) ∈ tb := tb_of (in_5 _ (List.mem_of_getElem? (i := 4) rfl)) rfl
theorem wd_1028 : (Cond.selects RX6 yX6_force yX6_force) ∈ tb := tb_of (in_5 _ (List.mem_of_getElem? (i := 5) rfl)) rfl
theorem wd_1029 : (Cond.code yX6_force cX6_force 3 (some .int)) ∈ tb := tb_of (in_5 _ (List.mem_of_getElem? (i := 6) rfl)) rfl
theorem wd_1030 : (Cond.methodLink RL 44 yX6_asks) ∈ tb := tb_of (in_5 _ (List.mem_of_getElem? (i := 7) rfl)) rfl
theorem wd_1031 : (Cond.instanceMethod yX6_asks) ∈ tb := tb_of (in_5 _ (List.mem_of_getElem? (i := 8) rfl)) rfl
theorem wd_1032 : (Cond.selects RX6 yX6_asks yX6_asks) ∈ tb := tb_of (in_5 _ (List.mem_of_getElem? (i := 9) rfl)) rfl
theorem wd_1033 : (Cond.code yX6_asks cX6_asks 3 (some .int)) ∈ tb := tb_of (in_5 _ (List.mem_of_getElem? (i := 10) rfl)) rfl
theorem wd_1034 : (Cond.methodLink RX6 181 yX6_isOne) ∈ tb := tb_of (in_5 _ (List.mem_of_getElem? (i := 11) rfl)) rfl
theorem wd_1036 : (Cond.instanceMethod yX6_isOne) ∈ tb := tb_of (in_5 _ (List.mem_of_getElem? (i := 13) rfl)) rfl
theorem wd_1037 : (Cond.code yX6_isOne cX6_isOne 2 (some .boolean)) ∈ tb := tb_of (in_5 _ (List.mem_of_getElem? (i := 14) rfl)) rfl
theorem wd_1038 : (Cond.methodLink RX6 184 yX6_asksOf) ∈ tb := tb_of (in_5 _ (List.mem_of_getElem? (i := 15) rfl)) rfl
theorem wd_1040 : (Cond.instanceMethod yX6_asksOf) ∈ tb := tb_of (in_5 _ (List.mem_of_getElem? (i := 17) rfl)) rfl
theorem wd_1041 : (Cond.code yX6_asksOf cX6_asksOf 3 (some .int)) ∈ tb := tb_of (in_5 _ (List.mem_of_getElem? (i := 18) rfl)) rfl
theorem wd_1042 : (Cond.methodLink RX6 175 yX6_says) ∈ tb := tb_of (in_5 _ (List.mem_of_getElem? (i := 19) rfl)) rfl
theorem wd_1044 : (Cond.instanceMethod yX6_says) ∈ tb := tb_of (in_5 _ (List.mem_of_getElem? (i := 21) rfl)) rfl
theorem wd_1045 : (Cond.code yX6_says cX6_says 5 (some .int)) ∈ tb := tb_of (in_5 _ (List.mem_of_getElem? (i := 22) rfl)) rfl
theorem wd_1046 : (Cond.methodLink RX6 171 yX6_two) ∈ tb := tb_of (in_5 _ (List.mem_of_getElem? (i := 23) rfl)) rfl
theorem wd_1047 : (Cond.static yX6_two) ∈ tb := tb_of (in_5 _ (List.mem_of_getElem? (i := 24) rfl)) rfl
theorem wd_1048 : (Cond.code yX6_two cX6_two 3 (some .int)) ∈ tb := tb_of (in_5 _ (List.mem_of_getElem? (i := 25) rfl)) rfl
theorem wd_1049 : (Cond.methodLink RX6 178 yX6_within) ∈ tb := tb_of (in_5 _ (List.mem_of_getElem? (i := 26) rfl)) rfl
theorem wd_1050 : (Cond.static yX6_within) ∈ tb := tb_of (in_5 _ (List.mem_of_getElem? (i := 27) rfl)) rfl
theorem wd_1051 : (Cond.code yX6_within cX6_within 3 (some .int)) ∈ tb := tb_of (in_5 _ (List.mem_of_getElem? (i := 28) rfl)) rfl
theorem wd_1052 : (Cond.methodLink RL 48 yX6_sleeper) ∈ tb := tb_of (in_5 _ (List.mem_of_getElem? (i := 29) rfl)) rfl
theorem wd_1053 : (Cond.instanceMethod yX6_sleeper) ∈ tb := tb_of (in_5 _ (List.mem_of_getElem? (i := 30) rfl)) rfl
theorem wd_1054 : (Cond.selects RX6 yX6_sleeper yX6_sleeper) ∈ tb := tb_of (in_5 _ (List.mem_of_getElem? (i := 31) rfl)) rfl
theorem wd_1055 : (Cond.code yX6_sleeper cX6_sleeper 3 (some .int)) ∈ tb := tb_of (in_5 _ (List.mem_of_getElem? (i := 32) rfl)) rfl
theorem wd_1056 : (Cond.methodLink RL 53 yX6_put) ∈ tb := tb_of (in_5 _ (List.mem_of_getElem? (i := 33) rfl)) rfl
theorem wd_1057 : (Cond.instanceMethod yX6_put) ∈ tb := tb_of (in_5 _ (List.mem_of_getElem? (i := 34) rfl)) rfl
theorem wd_1058 : (Cond.selects RX6 yX6_put yX6_put) ∈ tb := tb_of (in_5 _ (List.mem_of_getElem? (i := 35) rfl)) rfl
theorem wd_1059 : (Cond.code yX6_put cX6_put 6 (some .int)) ∈ tb := tb_of (in_5 _ (List.mem_of_getElem? (i := 36) rfl)) rfl
theorem wd_1060 : (Cond.methodLink RL 57 yX6_told) ∈ tb := tb_of (in_5 _ (List.mem_of_getElem? (i := 37) rfl)) rfl
theorem wd_1061 : (Cond.instanceMethod yX6_told) ∈ tb := tb_of (in_5 _ (List.mem_of_getElem? (i := 38) rfl)) rfl
theorem wd_1062 : (Cond.selects RX6 yX6_told yX6_told) ∈ tb := tb_of (in_5 _ (List.mem_of_getElem? (i := 39) rfl)) rfl
theorem wd_1063 : (Cond.code yX6_told cX6_told 3 (some .int)) ∈ tb := tb_of (in_5 _ (List.mem_of_getElem? (i := 40) rfl)) rfl
theorem wd_1064 : (Cond.methodLink RX6 187 yX6_goesOf) ∈ tb := tb_of (in_5 _ (List.mem_of_getElem? (i := 41) rfl)) rfl
theorem wd_1066 : (Cond.instanceMethod yX6_goesOf) ∈ tb := tb_of (in_5 _ (List.mem_of_getElem? (i := 43) rfl)) rfl
theorem wd_1067 : (Cond.code yX6_goesOf cX6_goesOf 6 (some .int)) ∈ tb := tb_of (in_5 _ (List.mem_of_getElem? (i := 44) rfl)) rfl
theorem wd_1068 : (Cond.methodLink RX6 190 yX6_mindsOf) ∈ tb := tb_of (in_5 _ (List.mem_of_getElem? (i := 45) rfl)) rfl
theorem wd_1070 : (Cond.instanceMethod yX6_mindsOf) ∈ tb := tb_of (in_5 _ (List.mem_of_getElem? (i := 47) rfl)) rfl
theorem wd_1071 : (Cond.code yX6_mindsOf cX6_mindsOf 3 (some .int)) ∈ tb := tb_of (in_5 _ (List.mem_of_getElem? (i := 48) rfl)) rfl
theorem wd_1072 : (Cond.methodLink RX6 193 yX6_wearsOf) ∈ tb := tb_of (in_5 _ (List.mem_of_getElem? (i := 49) rfl)) rfl
theorem wd_1074 : (Cond.instanceMethod yX6_wearsOf) ∈ tb := tb_of (in_5 _ (List.mem_of_getElem? (i := 51) rfl)) rfl
theorem wd_1075 : (Cond.code yX6_wearsOf cX6_wearsOf 3 (some .int)) ∈ tb := tb_of (in_5 _ (List.mem_of_getElem? (i := 52) rfl)) rfl
theorem wd_1076 : (Cond.methodLink RL 61 yX6_knit) ∈ tb := tb_of (in_5 _ (List.mem_of_getElem? (i := 53) rfl)) rfl
theorem wd_1077 : (Cond.instanceMethod yX6_knit) ∈ tb := tb_of (in_5 _ (List.mem_of_getElem? (i := 54) rfl)) rfl
theorem wd_1078 : (Cond.selects RX6 yX6_knit yX6_knit) ∈ tb := tb_of (in_5 _ (List.mem_of_getElem? (i := 55) rfl)) rfl
theorem wd_1079 : (Cond.code yX6_knit cX6_knit 6 (some .int)) ∈ tb := tb_of (in_5 _ (List.mem_of_getElem? (i := 56) rfl)) rfl
theorem wd_1080 : (Cond.methodLink RL 65 yX6_darn) ∈ tb := tb_of (in_5 _ (List.mem_of_getElem? (i := 57) rfl)) rfl
theorem wd_1081 : (Cond.instanceMethod yX6_darn) ∈ tb := tb_of (in_5 _ (List.mem_of_getElem? (i := 58) rfl)) rfl
theorem wd_1082 : (Cond.selects RX6 yX6_darn yX6_darn) ∈ tb := tb_of (in_5 _ (List.mem_of_getElem? (i := 59) rfl)) rfl
theorem wd_1083 : (Cond.code yX6_darn cX6_darn 5 (some .int)) ∈ tb := tb_of (in_5 _ (List.mem_of_getElem? (i := 60) rfl)) rfl
theorem wd_1084 : (Cond.methodLink RL 69 yX6_night) ∈ tb := tb_of (in_5 _ (List.mem_of_getElem? (i := 61) rfl)) rfl
theorem wd_1085 : (Cond.instanceMethod yX6_night) ∈ tb := tb_of (in_5 _ (List.mem_of_getElem? (i := 62) rfl)) rfl
theorem wd_1086 : (Cond.selects RX6 yX6_night yX6_night) ∈ tb := tb_of (in_5 _ (List.mem_of_getElem? (i := 63) rfl)) rfl
theorem wd_1087 : (Cond.code yX6_night cX6_night 1 (some .int)) ∈ tb := tb_of (in_5 _ (List.mem_of_getElem? (i := 64) rfl)) rfl
theorem wd_1088 : (Cond.methodLink RX6 205 yX6_nightOf) ∈ tb := tb_of (in_5 _ (List.mem_of_getElem? (i := 65) rfl)) rfl
theorem wd_1090 : (Cond.instanceMethod yX6_nightOf) ∈ tb := tb_of (in_5 _ (List.mem_of_getElem? (i := 67) rfl)) rfl
theorem wd_1091 : (Cond.code yX6_nightOf cX6_nightOf 6 none) ∈ tb := tb_of (in_5 _ (List.mem_of_getElem? (i := 68) rfl)) rfl
theorem wd_1092 : (Cond.methodLink RX6 202 yX6_stitches) ∈ tb := tb_of (in_5 _ (List.mem_of_getElem? (i := 69) rfl)) rfl
theorem wd_1094 : (Cond.instanceMethod yX6_stitches) ∈ tb := tb_of (in_5 _ (List.mem_of_getElem? (i := 71) rfl)) rfl
theorem wd_1095 : (Cond.code yX6_stitches cX6_stitches 5 (some .boolean)) ∈ tb := tb_of (in_5 _ (List.mem_of_getElem? (i := 72) rfl)) rfl
theorem wd_1096 : (Cond.methodLink RX6 196 yX6_thatWay) ∈ tb := tb_of (in_5 _ (List.mem_of_getElem? (i := 73) rfl)) rfl
theorem wd_1097 : (Cond.static yX6_thatWay) ∈ tb := tb_of (in_5 _ (List.mem_of_getElem? (i := 74) rfl)) rfl
theorem wd_1098 : (Cond.code yX6_thatWay cX6_thatWay 2 (some .int)) ∈ tb := tb_of (in_5 _ (List.mem_of_getElem? (i := 75) rfl)) rfl
theorem wd_1099 : (Cond.methodLink RL 73 yX6_run) ∈ tb := tb_of (in_5 _ (List.mem_of_getElem? (i := 76) rfl)) rfl
theorem wd_1100 : (Cond.instanceMethod yX6_run) ∈ tb := tb_of (in_5 _ (List.mem_of_getElem? (i := 77) rfl)) rfl
theorem wd_1101 : (Cond.selects RX6 yX6_run yX6_run) ∈ tb := tb_of (in_5 _ (List.mem_of_getElem? (i := 78) rfl)) rfl
theorem wd_1102 : (Cond.code yX6_run cX6_run 5 (some .int)) ∈ tb := tb_of (in_5 _ (List.mem_of_getElem? (i := 79) rfl)) rfl
theorem wd_1103 : (Cond.constant RX6 214 (-100000)) ∈ tb := tb_of (in_5 _ (List.mem_of_getElem? (i := 80) rfl)) rfl
theorem wd_1104 : (Cond.methodLink RX6 215 yX6_keeps) ∈ tb := tb_of (in_5 _ (List.mem_of_getElem? (i := 81) rfl)) rfl
theorem wd_1106 : (Cond.instanceMethod yX6_keeps) ∈ tb := tb_of (in_5 _ (List.mem_of_getElem? (i := 83) rfl)) rfl
theorem wd_1107 : (Cond.code yX6_keeps cX6_keeps 2 none) ∈ tb := tb_of (in_5 _ (List.mem_of_getElem? (i := 84) rfl)) rfl
theorem wd_1108 : (Cond.methodLink RX6 218 yX6_goes) ∈ tb := tb_of (in_5 _ (List.mem_of_getElem? (i := 85) rfl)) rfl
theorem wd_1110 : (Cond.instanceMethod yX6_goes) ∈ tb := tb_of (in_5 _ (List.mem_of_getElem? (i := 87) rfl)) rfl
theorem wd_1111 : (Cond.code yX6_goes cX6_goes 3 none) ∈ tb := tb_of (in_5 _ (List.mem_of_getElem? (i := 88) rfl)) rfl
theorem wd_1112 : (Cond.methodLink RX6 221 yX6_toldBehind) ∈ tb := tb_of (in_5 _ (List.mem_of_getElem? (i := 89) rfl)) rfl
theorem wd_1114 : (Cond.instanceMethod yX6_toldBehind) ∈ tb := tb_of (in_5 _ (List.mem_of_getElem? (i := 91) rfl)) rfl
theorem wd_1115 : (Cond.code yX6_toldBehind cX6_toldBehind 2 (some .int)) ∈ tb := tb_of (in_5 _ (List.mem_of_getElem? (i := 92) rfl)) rfl
theorem wd_1116 : (Cond.methodLink RX6 208 yX6_mindsAll) ∈ tb := tb_of (in_5 _ (List.mem_of_getElem? (i := 93) rfl)) rfl
theorem wd_1118 : (Cond.instanceMethod yX6_mindsAll) ∈ tb := tb_of (in_5 _ (List.mem_of_getElem? (i := 95) rfl)) rfl
theorem wd_1119 : (Cond.code yX6_mindsAll cX6_mindsAll 3 (some .int)) ∈ tb := tb_of (in_5 _ (List.mem_of_getElem? (i := 96) rfl)) rfl
theorem wd_1120 : (Cond.methodLink RX6 211 yX6_twosNow) ∈ tb := tb_of (in_5 _ (List.mem_of_getElem? (i := 97) rfl)) rfl
theorem wd_1122 : (Cond.instanceMethod yX6_twosNow) ∈ tb := tb_of (in_5 _ (List.mem_of_getElem? (i := 99) rfl)) rfl
theorem wd_1123 : (Cond.code yX6_twosNow cX6_twosNow 4 (some .int)) ∈ tb := tb_of (in_5 _ (List.mem_of_getElem? (i := 100) rfl)) rfl
theorem wd_1124 : (Cond.methodLink RX6 224 yX6_lays) ∈ tb := tb_of (in_5 _ (List.mem_of_getElem? (i := 101) rfl)) rfl
theorem wd_1126 : (Cond.instanceMethod yX6_lays) ∈ tb := tb_of (in_5 _ (List.mem_of_getElem? (i := 103) rfl)) rfl
theorem wd_1127 : (Cond.code yX6_lays cX6_lays 2 none) ∈ tb := tb_of (in_5 _ (List.mem_of_getElem? (i := 104) rfl)) rfl
theorem wd_1128 : (Cond.methodLink RL 78 yX6_track) ∈ tb := tb_of (in_5 _ (List.mem_of_getElem? (i := 105) rfl)) rfl
theorem wd_1129 : (Cond.instanceMethod yX6_track) ∈ tb := tb_of (in_5 _ (List.mem_of_getElem? (i := 106) rfl)) rfl
theorem wd_1130 : (Cond.selects RX6 yX6_track yX6_track) ∈ tb := tb_of (in_5 _ (List.mem_of_getElem? (i := 107) rfl)) rfl
theorem wd_1131 : (Cond.code yX6_track cX6_track 3 (some .long)) ∈ tb := tb_of (in_5 _ (List.mem_of_getElem? (i := 108) rfl)) rfl
theorem wd_1132 : (Cond.methodLink RX6 227 yX6_tracked) ∈ tb := tb_of (in_5 _ (List.mem_of_getElem? (i := 109) rfl)) rfl
theorem wd_1134 : (Cond.instanceMethod yX6_tracked) ∈ tb := tb_of (in_5 _ (List.mem_of_getElem? (i := 111) rfl)) rfl
theorem wd_1135 : (Cond.code yX6_tracked cX6_tracked 6 (some .long)) ∈ tb := tb_of (in_5 _ (List.mem_of_getElem? (i := 112) rfl)) rfl
theorem wd_1136 : (Cond.constantLong RX6 231 (-4611686018427387904)) ∈ tb := tb_of (in_5 _ (List.mem_of_getElem? (i := 113) rfl)) rfl
theorem wd_1137 : (Cond.methodLink RL 82 yX6_comes) ∈ tb := tb_of (in_5 _ (List.mem_of_getElem? (i := 114) rfl)) rfl
theorem wd_1138 : (Cond.instanceMethod yX6_comes) ∈ tb := tb_of (in_5 _ (List.mem_of_getElem? (i := 115) rfl)) rfl
theorem wd_1139 : (Cond.selects RX6 yX6_comes yX6_comes) ∈ tb := tb_of (in_5 _ (List.mem_of_getElem? (i := 116) rfl)) rfl
theorem wd_1140 : (Cond.code yX6_comes cX6_comes 5 (some .int)) ∈ tb := tb_of (in_5 _ (List.mem_of_getElem? (i := 117) rfl)) rfl
theorem wd_1141 : (Cond.methodLink RL 86 yX6_meet) ∈ tb := tb_of (in_5 _ (List.mem_of_getElem? (i := 118) rfl)) rfl
theorem wd_1142 : (Cond.instanceMethod yX6_meet) ∈ tb := tb_of (in_5 _ (List.mem_of_getElem? (i := 119) rfl)) rfl
theorem wd_1143 : (Cond.selects RX6 yX6_meet yX6_meet) ∈ tb := tb_of (in_5 _ (List.mem_of_getElem? (i := 120) rfl)) rfl
theorem wd_1144 : (Cond.code yX6_meet cX6_meet 5 (some .int)) ∈ tb := tb_of (in_5 _ (List.mem_of_getElem? (i := 121) rfl)) rfl
theorem wd_1145 : (Cond.methodLink RL 90 yX6_alike) ∈ tb := tb_of (in_5 _ (List.mem_of_getElem? (i := 122) rfl)) rfl
theorem wd_1146 : (Cond.instanceMethod yX6_alike) ∈ tb := tb_of (in_5 _ (List.mem_of_getElem? (i := 123) rfl)) rfl
theorem wd_1147 : (Cond.selects RX6 yX6_alike yX6_alike) ∈ tb := tb_of (in_5 _ (List.mem_of_getElem? (i := 124) rfl)) rfl
theorem wd_1148 : (Cond.code yX6_alike cX6_alike 4 (some .int)) ∈ tb := tb_of (in_5 _ (List.mem_of_getElem? (i := 125) rfl)) rfl
theorem wd_1149 : (Cond.methodLink RX6 236 yX6_onEnd) ∈ tb := tb_of (in_5 _ (List.mem_of_getElem? (i := 126) rfl)) rfl
theorem wd_1151 : (Cond.instanceMethod yX6_onEnd) ∈ tb := tb_of (in_5 _ (List.mem_of_getElem? (i := 128) rfl)) rfl
theorem wd_1152 : (Cond.code yX6_onEnd cX6_onEnd 6 (some .int)) ∈ tb := tb_of (in_5 _ (List.mem_of_getElem? (i := 129) rfl)) rfl
theorem wd_1153 : (Cond.methodLink RX6 239 yX6_turnedBy) ∈ tb := tb_of (in_5 _ (List.mem_of_getElem? (i := 130) rfl)) rfl
theorem wd_1155 : (Cond.instanceMethod yX6_turnedBy) ∈ tb := tb_of (in_5 _ (List.mem_of_getElem? (i := 132) rfl)) rfl
theorem wd_1156 : (Cond.code yX6_turnedBy cX6_turnedBy 4 (some .int)) ∈ tb := tb_of (in_5 _ (List.mem_of_getElem? (i := 133) rfl)) rfl
theorem wd_1157 : (Cond.methodLink RX6 233 yX6_isSoTurned) ∈ tb := tb_of (in_5 _ (List.mem_of_getElem? (i := 134) rfl)) rfl
theorem wd_1159 : (Cond.instanceMethod yX6_isSoTurned) ∈ tb := tb_of (in_5 _ (List.mem_of_getElem? (i := 136) rfl)) rfl
theorem wd_1160 : (Cond.code yX6_isSoTurned cX6_isSoTurned 6 (some .boolean)) ∈ tb := tb_of (in_5 _ (List.mem_of_getElem? (i := 137) rfl)) rfl
theorem wd_1161 : (Cond.methodLink RL 95 yX6_anew) ∈ tb := tb_of (in_5 _ (List.mem_of_getElem? (i := 138) rfl)) rfl
theorem wd_1162 : (Cond.instanceMethod yX6_anew) ∈ tb := tb_of (in_5 _ (List.mem_of_getElem? (i := 139) rfl)) rfl
theorem wd_1163 : (Cond.selects RX6 yX6_anew yX6_anew) ∈ tb := tb_of (in_5 _ (List.mem_of_getElem? (i := 140) rfl)) rfl
theorem wd_1164 : (Cond.code yX6_anew cX6_anew 11 (some .int)) ∈ tb := tb_of (in_5 _ (List.mem_of_getElem? (i := 141) rfl)) rfl
theorem wd_1165 : (Cond.methodLink RX6 245 yX6_farBehind) ∈ tb := tb_of (in_5 _ (List.mem_of_getElem? (i := 142) rfl)) rfl
theorem wd_1167 : (Cond.instanceMethod yX6_farBehind) ∈ tb := tb_of (in_5 _ (List.mem_of_getElem? (i := 144) rfl)) rfl
theorem wd_1168 : (Cond.code yX6_farBehind cX6_farBehind 5 (some .int)) ∈ tb := tb_of (in_5 _ (List.mem_of_getElem? (i := 145) rfl)) rfl
theorem wd_1169 : (Cond.methodLink RX6 242 yX6_farOf) ∈ tb := tb_of (in_5 _ (List.mem_of_getElem? (i := 146) rfl)) rfl
theorem wd_1170 : (Cond.static yX6_farOf) ∈ tb := tb_of (in_5 _ (List.mem_of_getElem? (i := 147) rfl)) rfl
theorem wd_1171 : (Cond.code yX6_farOf cX6_farOf 4 (some .int)) ∈ tb := tb_of (in_5 _ (List.mem_of_getElem? (i := 148) rfl)) rfl
theorem wd_1172 : (Cond.methodLink RL 99 yX6_drain) ∈ tb := tb_of (in_5 _ (List.mem_of_getElem? (i := 149) rfl)) rfl
theorem wd_1173 : (Cond.instanceMethod yX6_drain) ∈ tb := tb_of (in_5 _ (List.mem_of_getElem? (i := 150) rfl)) rfl
theorem wd_1174 : (Cond.selects RX6 yX6_drain yX6_drain) ∈ tb := tb_of (in_5 _ (List.mem_of_getElem? (i := 151) rfl)) rfl
theorem wd_1175 : (Cond.code yX6_drain cX6_drain 9 (some .int)) ∈ tb := tb_of (in_5 _ (List.mem_of_getElem? (i := 152) rfl)) rfl
theorem wd_1176 : (Cond.methodLink RX6 248 yX6_milesBehind) ∈ tb := tb_of (in_5 _ (List.mem_of_getElem? (i := 153) rfl)) rfl
theorem wd_1178 : (Cond.instanceMethod yX6_milesBehind) ∈ tb := tb_of (in_5 _ (List.mem_of_getElem? (i := 155) rfl)) rfl
theorem wd_1179 : (Cond.code yX6_milesBehind cX6_milesBehind 2 (some .int)) ∈ tb := tb_of (in_5 _ (List.mem_of_getElem? (i := 156) rfl)) rfl
theorem wd_1180 : (Cond.methodLink RL 103 yX6_turn) ∈ tb := tb_of (in_5 _ (List.mem_of_getElem? (i := 157) rfl)) rfl
theorem wd_1181 : (Cond.instanceMethod yX6_turn) ∈ tb := tb_of (in_5 _ (List.mem_of_getElem? (i := 158) rfl)) rfl
theorem wd_1182 : (Cond.selects RX6 yX6_turn yX6_turn) ∈ tb := tb_of (in_5 _ (List.mem_of_getElem? (i := 159) rfl)) rfl
theorem wd_1183 : (Cond.code yX6_turn cX6_turn 9 (some .int)) ∈ tb := tb_of (in_5 _ (List.mem_of_getElem? (i := 160) rfl)) rfl
theorem wd_1184 : (Cond.methodLink RL 107 yX6_share) ∈ tb := tb_of (in_5 _ (List.mem_of_getElem? (i := 161) rfl)) rfl
theorem wd_1185 : (Cond.instanceMethod yX6_share) ∈ tb := tb_of (in_5 _ (List.mem_of_getElem? (i := 162) rfl)) rfl
theorem wd_1186 : (Cond.selects RX6 yX6_share yX6_share) ∈ tb := tb_of (in_5 _ (List.mem_of_getElem? (i := 163) rfl)) rfl
theorem wd_1187 : (Cond.code yX6_share cX6_share 3 (some .long)) ∈ tb := tb_of (in_5 _ (List.mem_of_getElem? (i := 164) rfl)) rfl
theorem wd_1188 : (Cond.constantLong RX6 251 64) ∈ tb := tb_of (in_5 _ (List.mem_of_getElem? (i := 165) rfl)) rfl
theorem wd_1189 : (Cond.methodLink RX6 253 yX6_lowest) ∈ tb := tb_of (in_5 _ (List.mem_of_getElem? (i := 166) rfl)) rfl
theorem wd_1190 : (Cond.static yX6_lowest) ∈ tb := tb_of (in_5 _ (List.mem_of_getElem? (i := 167) rfl)) rfl
theorem wd_1191 : (Cond.code yX6_lowest cX6_lowest 11 (some .long)) ∈ tb := tb_of (in_5 _ (List.mem_of_getElem? (i := 168) rfl)) rfl
theorem wd_1192 : (Cond.methodLink RL 111 yX6_judge) ∈ tb := tb_of (in_5 _ (List.mem_of_getElem? (i := 169) rfl)) rfl
theorem wd_1193 : (Cond.instanceMethod yX6_judge) ∈ tb := tb_of (in_5 _ (List.mem_of_getElem? (i := 170) rfl)) rfl
theorem wd_1194 : (Cond.selects RX6 yX6_judge yX6_judge) ∈ tb := tb_of (in_5 _ (List.mem_of_getElem? (i := 171) rfl)) rfl
theorem wd_1195 : (Cond.code yX6_judge cX6_judge 4 (some .int)) ∈ tb := tb_of (in_5 _ (List.mem_of_getElem? (i := 172) rfl)) rfl
theorem wd_1196 : (Cond.methodLink RX6 260 yX6_toldWrong) ∈ tb := tb_of (in_5 _ (List.mem_of_getElem? (i := 173) rfl)) rfl
theorem wd_1198 : (Cond.instanceMethod yX6_toldWrong) ∈ tb := tb_of (in_5 _ (List.mem_of_getElem? (i := 175) rfl)) rfl
theorem wd_1199 : (Cond.code yX6_toldWrong cX6_toldWrong 4 (some .int)) ∈ tb := tb_of (in_5 _ (List.mem_of_getElem? (i := 176) rfl)) rfl
theorem wd_1200 : (Cond.methodLink RX6 257 yX6_sheetWrong) ∈ tb := tb_of (in_5 _ (List.mem_of_getElem? (i := 177) rfl)) rfl
theorem wd_1202 : (Cond.instanceMethod yX6_sheetWrong) ∈ tb := tb_of (in_5 _ (List.mem_of_getElem? (i := 179) rfl)) rfl
theorem wd_1203 : (Cond.code yX6_sheetWrong cX6_sheetWrong 2 (some .int)) ∈ tb := tb_of (in_5 _ (List.mem_of_getElem? (i := 180) rfl)) rfl
theorem wd_1204 : (Cond.methodLink RX6 263 yX6_unlike) ∈ tb := tb_of (in_5 _ (List.mem_of_getElem? (i := 181) rfl)) rfl
theorem wd_1206 : (Cond.instanceMethod yX6_unlike) ∈ tb := tb_of (in_5 _ (List.mem_of_getElem? (i := 183) rfl)) rfl
theorem wd_1207 : (Cond.code yX6_unlike cX6_unlike 5 (some .int)) ∈ tb := tb_of (in_5 _ (List.mem_of_getElem? (i := 184) rfl)) rfl
theorem wd_1208 : (Cond.methodLink RL 115 yX6_kinds) ∈ tb := tb_of (in_5 _ (List.mem_of_getElem? (i := 185) rfl)) rfl
theorem wd_1209 : (Cond.instanceMethod yX6_kinds) ∈ tb := tb_of (in_5 _ (List.mem_of_getElem? (i := 186) rfl)) rfl
theorem wd_1210 : (Cond.selects RX6 yX6_kinds yX6_kinds) ∈ tb := tb_of (in_5 _ (List.mem_of_getElem? (i := 187) rfl)) rfl
theorem wd_1211 : (Cond.code yX6_kinds cX6_kinds 9 (some .int)) ∈ tb := tb_of (in_5 _ (List.mem_of_getElem? (i := 188) rfl)) rfl
theorem wd_1212 : (Cond.methodLink RL 119 yX6_begins) ∈ tb := tb_of (in_5 _ (List.mem_of_getElem? (i := 189) rfl)) rfl
theorem wd_1213 : (Cond.instanceMethod yX6_begins) ∈ tb := tb_of (in_5 _ (List.mem_of_getElem? (i := 190) rfl)) rfl
theorem wd_1214 : (Cond.selects RX6 yX6_begins yX6_begins) ∈ tb := tb_of (in_5 _ (List.mem_of_getElem? (i := 191) rfl)) rfl
theorem wd_1215 : (Cond.code yX6_begins cX6_begins 7 (some .long)) ∈ tb := tb_of (in_5 _ (List.mem_of_getElem? (i := 192) rfl)) rfl
theorem wd_1216 : (Cond.methodLink RL 123 yX6_ways) ∈ tb := tb_of (in_5 _ (List.mem_of_getElem? (i := 193) rfl)) rfl
theorem wd_1217 : (Cond.instanceMethod yX6_ways) ∈ tb := tb_of (in_5 _ (List.mem_of_getElem? (i := 194) rfl)) rfl
theorem wd_1218 : (Cond.selects RX6 yX6_ways yX6_ways) ∈ tb := tb_of (in_5 _ (List.mem_of_getElem? (i := 195) rfl)) rfl
theorem wd_1219 : (Cond.code yX6_ways cX6_ways 8 (some .int)) ∈ tb := tb_of (in_5 _ (List.mem_of_getElem? (i := 196) rfl)) rfl
theorem wd_1220 : (Cond.methodLink RL 127 yX6_whose) ∈ tb := tb_of (in_5 _ (List.mem_of_getElem? (i := 197) rfl)) rfl
theorem wd_1221 : (Cond.instanceMethod yX6_whose) ∈ tb := tb_of (in_5 _ (List.mem_of_getElem? (i := 198) rfl)) rfl
theorem wd_1222 : (Cond.selects RX6 yX6_whose yX6_whose) ∈ tb := tb_of (in_5 _ (List.mem_of_getElem? (i := 199) rfl)) rfl
theorem wd_1223 : (Cond.code yX6_whose cX6_whose 5 (some .int)) ∈ tb := tb_of (in_5 _ (List.mem_of_getElem? (i := 200) rfl)) rfl
theorem wd_1224 : (Cond.methodLink RL 131 yX6_laws) ∈ tb := tb_of (in_5 _ (List.mem_of_getElem? (i := 201) rfl)) rfl
theorem wd_1225 : (Cond.instanceMethod yX6_laws) ∈ tb := tb_of (in_5 _ (List.mem_of_getElem? (i := 202) rfl)) rfl
theorem wd_1226 : (Cond.selects RX6 yX6_laws yX6_laws) ∈ tb := tb_of (in_5 _ (List.mem_of_getElem? (i := 203) rfl)) rfl
theorem wd_1227 : (Cond.code yX6_laws cX6_laws 7 (some .int)) ∈ tb := tb_of (in_5 _ (List.mem_of_getElem? (i := 204) rfl)) rfl
theorem wd_1228 : (Cond.methodLink RL 135 yX6_film) ∈ tb := tb_of (in_5 _ (List.mem_of_getElem? (i := 205) rfl)) rfl
theorem wd_1229 : (Cond.instanceMethod yX6_film) ∈ tb := tb_of (in_5 _ (List.mem_of_getElem? (i := 206) rfl)) rfl
theorem wd_1230 : (Cond.selects RX6 yX6_film yX6_film) ∈ tb := tb_of (in_5 _ (List.mem_of_getElem? (i := 207) rfl)) rfl
theorem wd_1231 : (Cond.code yX6_film cX6_film 5 (some .int)) ∈ tb := tb_of (in_5 _ (List.mem_of_getElem? (i := 208) rfl)) rfl
theorem wd_1232 : (Cond.methodLink RL 139 yX6_drawn) ∈ tb := tb_of (in_5 _ (List.mem_of_getElem? (i := 209) rfl)) rfl
theorem wd_1233 : (Cond.instanceMethod yX6_drawn) ∈ tb := tb_of (in_5 _ (List.mem_of_getElem? (i := 210) rfl)) rfl
theorem wd_1234 : (Cond.selects RX6 yX6_drawn yX6_drawn) ∈ tb := tb_of (in_5 _ (List.mem_of_getElem? (i := 211) rfl)) rfl
theorem wd_1235 : (Cond.code yX6_drawn cX6_drawn 4 (some .int)) ∈ tb := tb_of (in_5 _ (List.mem_of_getElem? (i := 212) rfl)) rfl
theorem wd_1236 : (Cond.constant RX6 273 99999) ∈ tb := tb_of (in_5 _ (List.mem_of_getElem? (i := 213) rfl)) rfl
theorem wd_1237 : (Cond.methodLink RX6 274 yX6_floods) ∈ tb := tb_of (in_5 _ (List.mem_of_getElem? (i := 214) rfl)) rfl
theorem wd_1239 : (Cond.instanceMethod yX6_floods) ∈ tb := tb_of (in_5 _ (List.mem_of_getElem? (i := 216) rfl)) rfl
theorem wd_1240 : (Cond.code yX6_floods cX6_floods 7 (some .int)) ∈ tb := tb_of (in_5 _ (List.mem_of_getElem? (i := 217) rfl)) rfl
theorem wd_1241 : (Cond.constantLong RX6 266 48271) ∈ tb := tb_of (in_5 _ (List.mem_of_getElem? (i := 218) rfl)) rfl
theorem wd_1242 : (Cond.constantLong RX6 268 2147483647) ∈ tb := tb_of (in_5 _ (List.mem_of_getElem? (i := 219) rfl)) rfl
theorem wd_1243 : (Cond.methodLink RL 144 yX6_odds) ∈ tb := tb_of (in_5 _ (List.mem_of_getElem? (i := 220) rfl)) rfl
theorem wd_1244 : (Cond.instanceMethod yX6_odds) ∈ tb := tb_of (in_5 _ (List.mem_of_getElem? (i := 221) rfl)) rfl
theorem wd_1245 : (Cond.selects RX6 yX6_odds yX6_odds) ∈ tb := tb_of (in_5 _ (List.mem_of_getElem? (i := 222) rfl)) rfl
theorem wd_1246 : (Cond.code yX6_odds cX6_odds 8 (some .long)) ∈ tb := tb_of (in_5 _ (List.mem_of_getElem? (i := 223) rfl)) rfl
theorem wd_1247 : (Cond.methodLink RL 148 yX6_image) ∈ tb := tb_of (in_5 _ (List.mem_of_getElem? (i := 224) rfl)) rfl
theorem wd_1248 : (Cond.instanceMethod yX6_image) ∈ tb := tb_of (in_5 _ (List.mem_of_getElem? (i := 225) rfl)) rfl
theorem wd_1249 : (Cond.selects RX6 yX6_image yX6_image) ∈ tb := tb_of (in_5 _ (List.mem_of_getElem? (i := 226) rfl)) rfl
theorem wd_1250 : (Cond.code yX6_image cX6_image 2 (some .int)) ∈ tb := tb_of (in_5 _ (List.mem_of_getElem? (i := 227) rfl)) rfl
theorem wd_1251 : (Cond.methodLink RL 152 yX6_back) ∈ tb := tb_of (in_5 _ (List.mem_of_getElem? (i := 228) rfl)) rfl
theorem wd_1252 : (Cond.instanceMethod yX6_back) ∈ tb := tb_of (in_5 _ (List.mem_of_getElem? (i := 229) rfl)) rfl
theorem wd_1253 : (Cond.selects RX6 yX6_back yX6_back) ∈ tb := tb_of (in_5 _ (List.mem_of_getElem? (i := 230) rfl)) rfl
theorem wd_1254 : (Cond.code yX6_back cX6_back 2 (some .int)) ∈ tb := tb_of (in_5 _ (List.mem_of_getElem? (i := 231) rfl)) rfl
theorem wd_1255 : (Cond.methodLink RL 156 yX6_sheet) ∈ tb := tb_of (in_5 _ (List.mem_of_getElem? (i := 232) rfl)) rfl
theorem wd_1256 : (Cond.instanceMethod yX6_sheet) ∈ tb := tb_of (in_5 _ (List.mem_of_getElem? (i := 233) rfl)) rfl
theorem wd_1257 : (Cond.selects RX6 yX6_sheet yX6_sheet) ∈ tb := tb_of (in_5 _ (List.mem_of_getElem? (i := 234) rfl)) rfl
theorem wd_1258 : (Cond.code yX6_sheet cX6_sheet 5 (some .int)) ∈ tb := tb_of (in_5 _ (List.mem_of_getElem? (i := 235) rfl)) rfl
theorem wd_1259 : (Cond.methodLink RL 160 yX6_cell) ∈ tb := tb_of (in_5 _ (List.mem_of_getElem? (i := 236) rfl)) rfl
theorem wd_1260 : (Cond.instanceMethod yX6_cell) ∈ tb := tb_of (in_5 _ (List.mem_of_getElem? (i := 237) rfl)) rfl
theorem wd_1261 : (Cond.selects RX6 yX6_cell yX6_cell) ∈ tb := tb_of (in_5 _ (List.mem_of_getElem? (i := 238) rfl)) rfl
theorem wd_1262 : (Cond.code yX6_cell cX6_cell 4 (some .int)) ∈ tb := tb_of (in_5 _ (List.mem_of_getElem? (i := 239) rfl)) rfl
theorem wd_1263 : (Cond.methodLink RL 165 yX6_copy) ∈ tb := tb_of (in_6 _ (List.mem_of_getElem? (i := 0) rfl)) rfl
theorem wd_1264 : (Cond.instanceMethod yX6_copy) ∈ tb := tb_of (in_6 _ (List.mem_of_getElem? (i := 1) rfl)) rfl
theorem wd_1265 : (Cond.selects RX6 yX6_copy yX6_copy) ∈ tb := tb_of (in_6 _ (List.mem_of_getElem? (i := 2) rfl)) rfl
theorem wd_1266 : (Cond.code yX6_copy cX6_copy 10 (some .int)) ∈ tb := tb_of (in_6 _ (List.mem_of_getElem? (i := 3) rfl)) rfl
theorem wd_1267 : (Cond.methodLink RL 169 yX6_sleepersBy) ∈ tb := tb_of (in_6 _ (List.mem_of_getElem? (i := 4) rfl)) rfl
theorem wd_1268 : (Cond.instanceMethod yX6_sleepersBy) ∈ tb := tb_of (in_6 _ (List.mem_of_getElem? (i := 5) rfl)) rfl
theorem wd_1269 : (Cond.selects RX6 yX6_sleepersBy yX6_sleepersBy) ∈ tb := tb_of (in_6 _ (List.mem_of_getElem? (i := 6) rfl)) rfl
theorem wd_1270 : (Cond.code yX6_sleepersBy cX6_sleepersBy 9 (some .int)) ∈ tb := tb_of (in_6 _ (List.mem_of_getElem? (i := 7) rfl)) rfl
theorem wd_1271 : (Cond.methodLink RX6 284 yX6_sleeper) ∈ tb := tb_of (in_6 _ (List.mem_of_getElem? (i := 8) rfl)) rfl
theorem wd_1272 : (Cond.methodLink RL 173 yX6_taken) ∈ tb := tb_of (in_6 _ (List.mem_of_getElem? (i := 9) rfl)) rfl
theorem wd_1273 : (Cond.instanceMethod yX6_taken) ∈ tb := tb_of (in_6 _ (List.mem_of_getElem? (i := 10) rfl)) rfl
theorem wd_1274 : (Cond.selects RX6 yX6_taken yX6_taken) ∈ tb := tb_of (in_6 _ (List.mem_of_getElem? (i := 11) rfl)) rfl
theorem wd_1275 : (Cond.code yX6_taken cX6_taken 3 (some .int)) ∈ tb := tb_of (in_6 _ (List.mem_of_getElem? (i := 12) rfl)) rfl
theorem wd_1276 : (Cond.methodLink RX6 287 yX6_isUnder) ∈ tb := tb_of (in_6 _ (List.mem_of_getElem? (i := 13) rfl)) rfl
theorem wd_1277 : (Cond.static yX6_isUnder) ∈ tb := tb_of (in_6 _ (List.mem_of_getElem? (i := 14) rfl)) rfl
theorem wd_1278 : (Cond.code yX6_isUnder cX6_isUnder 2 (some .boolean)) ∈ tb := tb_of (in_6 _ (List.mem_of_getElem? (i := 15) rfl)) rfl
theorem wd_1279 : (Cond.fieldLink "java/lang/String" 9 "java/lang/String" "value" "[B") ∈ tb := tb_of (in_6 _ (List.mem_of_getElem? (i := 16) rfl)) rfl
theorem wd_1280 : (Cond.fieldLink "java/lang/String" 15 "java/lang/String" "coder" "B") ∈ tb := tb_of (in_6 _ (List.mem_of_getElem? (i := 17) rfl)) rfl
theorem ly_0_0 : u_lay RX0 TX0 0 ∈ tb := tb_of (in_1 _ (List.mem_of_getElem? (i := 212) rfl)) rfl
theorem ly_0_1 : u_lay RX0 TX0 1 ∈ tb := tb_of (in_1 _ (List.mem_of_getElem? (i := 214) rfl)) rfl
theorem ly_0_2 : u_lay RX0 TX0 2 ∈ tb := tb_of (in_1 _ (List.mem_of_getElem? (i := 216) rfl)) rfl
theorem ly_0_3 : u_lay RX0 TX0 3 ∈ tb := tb_of (in_1 _ (List.mem_of_getElem? (i := 218) rfl)) rfl
theorem ly_0_4 : u_lay RX0 TX0 4 ∈ tb := tb_of (in_1 _ (List.mem_of_getElem? (i := 220) rfl)) rfl
theorem ly_0_5 : u_lay RX0 TX0 5 ∈ tb := tb_of (in_1 _ (List.mem_of_getElem? (i := 222) rfl)) rfl
theorem ly_0_6 : u_lay RX0 TX0 6 ∈ tb := tb_of (in_1 _ (List.mem_of_getElem? (i := 224) rfl)) rfl
theorem inT0 : ∀ w ∈ wsX00, w ∈ tb := by
  intro w hw
  obtain ⟨k, hk, rfl⟩ := List.mem_map.mp hw
  have hk := List.mem_range.mp hk
  match k, hk with
  | 0, _ => exact ly_0_0
  | 1, _ => exact ly_0_1
  | 2, _ => exact ly_0_2
  | 3, _ => exact ly_0_3
  | 4, _ => exact ly_0_4
  | 5, _ => exact ly_0_5
  | 6, _ => exact ly_0_6
  | k + 7, hk => exact absurd hk (by omega)
theorem ly_1_0 : u_lay RX1 TX1 0 ∈ tb := tb_of (in_1 _ (List.mem_of_getElem? (i := 140) rfl)) rfl
theorem ly_1_1 : u_lay RX1 TX1 1 ∈ tb := tb_of (in_1 _ (List.mem_of_getElem? (i := 142) rfl)) rfl
theorem ly_1_2 : u_lay RX1 TX1 2 ∈ tb := tb_of (in_1 _ (List.mem_of_getElem? (i := 144) rfl)) rfl
theorem inT1 : ∀ w ∈ wsX10, w ∈ tb := by
  intro w hw
  obtain ⟨k, hk, rfl⟩ := List.mem_map.mp hw
  have hk := List.mem_range.mp hk
  match k, hk with
  | 0, _ => exact ly_1_0
  | 1, _ => exact ly_1_1
  | 2, _ => exact ly_1_2
  | k + 3, hk => exact absurd hk (by omega)
theorem ly_2_0 : u_lay RX2 TX2 0 ∈ tb := tb_of (in_1 _ (List.mem_of_getElem? (i := 57) rfl)) rfl
theorem ly_2_1 : u_lay RX2 TX2 1 ∈ tb := tb_of (in_1 _ (List.mem_of_getElem? (i := 59) rfl)) rfl
theorem ly_2_2 : u_lay RX2 TX2 2 ∈ tb := tb_of (in_1 _ (List.mem_of_getElem? (i := 61) rfl)) rfl
theorem ly_2_3 : u_lay RX2 TX2 3 ∈ tb := tb_of (in_1 _ (List.mem_of_getElem? (i := 63) rfl)) rfl
theorem ly_2_4 : u_lay RX2 TX2 4 ∈ tb := tb_of (in_1 _ (List.mem_of_getElem? (i := 65) rfl)) rfl
theorem ly_2_5 : u_lay RX2 TX2 5 ∈ tb := tb_of (in_1 _ (List.mem_of_getElem? (i := 67) rfl)) rfl
theorem ly_2_6 : u_lay RX2 TX2 6 ∈ tb := tb_of (in_1 _ (List.mem_of_getElem? (i := 69) rfl)) rfl
theorem ly_2_7 : u_lay RX2 TX2 7 ∈ tb := tb_of (in_1 _ (List.mem_of_getElem? (i := 71) rfl)) rfl
theorem ly_2_8 : u_lay RX2 TX2 8 ∈ tb := tb_of (in_1 _ (List.mem_of_getElem? (i := 73) rfl)) rfl
theorem ly_2_9 : u_lay RX2 TX2 9 ∈ tb := tb_of (in_1 _ (List.mem_of_getElem? (i := 75) rfl)) rfl
theorem inT2 : ∀ w ∈ wsX20, w ∈ tb := by
  intro w hw
  obtain ⟨k, hk, rfl⟩ := List.mem_map.mp hw
  have hk := List.mem_range.mp hk
  match k, hk with
  | 0, _ => exact ly_2_0
  | 1, _ => exact ly_2_1
  | 2, _ => exact ly_2_2
  | 3, _ => exact ly_2_3
  | 4, _ => exact ly_2_4
  | 5, _ => exact ly_2_5
  | 6, _ => exact ly_2_6
  | 7, _ => exact ly_2_7
  | 8, _ => exact ly_2_8
  | 9, _ => exact ly_2_9
  | k + 10, hk => exact absurd hk (by omega)
theorem ly_3_0 : u_lay RX3 TX3 0 ∈ tb := tb_of (in_1 _ (List.mem_of_getElem? (i := 117) rfl)) rfl
theorem ly_3_1 : u_lay RX3 TX3 1 ∈ tb := tb_of (in_1 _ (List.mem_of_getElem? (i := 119) rfl)) rfl
theorem ly_3_2 : u_lay RX3 TX3 2 ∈ tb := tb_of (in_1 _ (List.mem_of_getElem? (i := 121) rfl)) rfl
theorem ly_3_3 : u_lay RX3 TX3 3 ∈ tb := tb_of (in_1 _ (List.mem_of_getElem? (i := 123) rfl)) rfl
theorem ly_3_4 : u_lay RX3 TX3 4 ∈ tb := tb_of (in_1 _ (List.mem_of_getElem? (i := 125) rfl)) rfl
theorem inT3 : ∀ w ∈ wsX30, w ∈ tb := by
  intro w hw
  obtain ⟨k, hk, rfl⟩ := List.mem_map.mp hw
  have hk := List.mem_range.mp hk
  match k, hk with
  | 0, _ => exact ly_3_0
  | 1, _ => exact ly_3_1
  | 2, _ => exact ly_3_2
  | 3, _ => exact ly_3_3
  | 4, _ => exact ly_3_4
  | k + 5, hk => exact absurd hk (by omega)
theorem ly_4_0 : u_lay RX4 TX4 0 ∈ tb := tb_of (in_1 _ (List.mem_of_getElem? (i := 88) rfl)) rfl
theorem ly_4_1 : u_lay RX4 TX4 1 ∈ tb := tb_of (in_1 _ (List.mem_of_getElem? (i := 90) rfl)) rfl
theorem ly_4_2 : u_lay RX4 TX4 2 ∈ tb := tb_of (in_1 _ (List.mem_of_getElem? (i := 92) rfl)) rfl
theorem ly_4_3 : u_lay RX4 TX4 3 ∈ tb := tb_of (in_1 _ (List.mem_of_getElem? (i := 94) rfl)) rfl
theorem ly_4_4 : u_lay RX4 TX4 4 ∈ tb := tb_of (in_1 _ (List.mem_of_getElem? (i := 96) rfl)) rfl
theorem inT4 : ∀ w ∈ wsX40, w ∈ tb := by
  intro w hw
  obtain ⟨k, hk, rfl⟩ := List.mem_map.mp hw
  have hk := List.mem_range.mp hk
  match k, hk with
  | 0, _ => exact ly_4_0
  | 1, _ => exact ly_4_1
  | 2, _ => exact ly_4_2
  | 3, _ => exact ly_4_3
  | 4, _ => exact ly_4_4
  | k + 5, hk => exact absurd hk (by omega)
theorem ly_5_0 : u_lay RX5 TX5 0 ∈ tb := tb_of (in_2 _ (List.mem_of_getElem? (i := 82) rfl)) rfl
theorem ly_5_1 : u_lay RX5 TX5 1 ∈ tb := tb_of (in_2 _ (List.mem_of_getElem? (i := 84) rfl)) rfl
theorem ly_5_2 : u_lay RX5 TX5 2 ∈ tb := tb_of (in_2 _ (List.mem_of_getElem? (i := 86) rfl)) rfl
theorem ly_5_3 : u_lay RX5 TX5 3 ∈ tb := tb_of (in_2 _ (List.mem_of_getElem? (i := 88) rfl)) rfl
theorem ly_5_4 : u_lay RX5 TX5 4 ∈ tb := tb_of (in_2 _ (List.mem_of_getElem? (i := 90) rfl)) rfl
theorem ly_5_5 : u_lay RX5 TX5 5 ∈ tb := tb_of (in_2 _ (List.mem_of_getElem? (i := 92) rfl)) rfl
theorem ly_5_6 : u_lay RX5 TX5 6 ∈ tb := tb_of (in_2 _ (List.mem_of_getElem? (i := 94) rfl)) rfl
theorem ly_5_7 : u_lay RX5 TX5 7 ∈ tb := tb_of (in_2 _ (List.mem_of_getElem? (i := 96) rfl)) rfl
theorem ly_5_8 : u_lay RX5 TX5 8 ∈ tb := tb_of (in_2 _ (List.mem_of_getElem? (i := 98) rfl)) rfl
theorem ly_5_9 : u_lay RX5 TX5 9 ∈ tb := tb_of (in_2 _ (List.mem_of_getElem? (i := 100) rfl)) rfl
theorem ly_5_10 : u_lay RX5 TX5 10 ∈ tb := tb_of (in_2 _ (List.mem_of_getElem? (i := 102) rfl)) rfl
theorem inT5 : ∀ w ∈ wsX50, w ∈ tb := by
  intro w hw
  obtain ⟨k, hk, rfl⟩ := List.mem_map.mp hw
  have hk := List.mem_range.mp hk
  match k, hk with
  | 0, _ => exact ly_5_0
  | 1, _ => exact ly_5_1
  | 2, _ => exact ly_5_2
  | 3, _ => exact ly_5_3
  | 4, _ => exact ly_5_4
  | 5, _ => exact ly_5_5
  | 6, _ => exact ly_5_6
  | 7, _ => exact ly_5_7
  | 8, _ => exact ly_5_8
  | 9, _ => exact ly_5_9
  | 10, _ => exact ly_5_10
  | k + 11, hk => exact absurd hk (by omega)
theorem ly_6_0 : u_lay RX6 TX6 0 ∈ tb := tb_of (in_4 _ (List.mem_of_getElem? (i := 136) rfl)) rfl
theorem ly_6_1 : u_lay RX6 TX6 1 ∈ tb := tb_of (in_4 _ (List.mem_of_getElem? (i := 138) rfl)) rfl
theorem ly_6_2 : u_lay RX6 TX6 2 ∈ tb := tb_of (in_4 _ (List.mem_of_getElem? (i := 140) rfl)) rfl
theorem ly_6_3 : u_lay RX6 TX6 3 ∈ tb := tb_of (in_4 _ (List.mem_of_getElem? (i := 142) rfl)) rfl
theorem ly_6_4 : u_lay RX6 TX6 4 ∈ tb := tb_of (in_4 _ (List.mem_of_getElem? (i := 144) rfl)) rfl
theorem ly_6_5 : u_lay RX6 TX6 5 ∈ tb := tb_of (in_4 _ (List.mem_of_getElem? (i := 146) rfl)) rfl
theorem ly_6_6 : u_lay RX6 TX6 6 ∈ tb := tb_of (in_4 _ (List.mem_of_getElem? (i := 148) rfl)) rfl
theorem ly_6_7 : u_lay RX6 TX6 7 ∈ tb := tb_of (in_4 _ (List.mem_of_getElem? (i := 150) rfl)) rfl
theorem ly_6_8 : u_lay RX6 TX6 8 ∈ tb := tb_of (in_4 _ (List.mem_of_getElem? (i := 152) rfl)) rfl
theorem ly_6_9 : u_lay RX6 TX6 9 ∈ tb := tb_of (in_4 _ (List.mem_of_getElem? (i := 154) rfl)) rfl
theorem ly_6_10 : u_lay RX6 TX6 10 ∈ tb := tb_of (in_4 _ (List.mem_of_getElem? (i := 156) rfl)) rfl
theorem ly_6_11 : u_lay RX6 TX6 11 ∈ tb := tb_of (in_4 _ (List.mem_of_getElem? (i := 158) rfl)) rfl
theorem ly_6_12 : u_lay RX6 TX6 12 ∈ tb := tb_of (in_4 _ (List.mem_of_getElem? (i := 160) rfl)) rfl
theorem ly_6_13 : u_lay RX6 TX6 13 ∈ tb := tb_of (in_4 _ (List.mem_of_getElem? (i := 162) rfl)) rfl
theorem ly_6_14 : u_lay RX6 TX6 14 ∈ tb := tb_of (in_4 _ (List.mem_of_getElem? (i := 164) rfl)) rfl
theorem ly_6_15 : u_lay RX6 TX6 15 ∈ tb := tb_of (in_4 _ (List.mem_of_getElem? (i := 166) rfl)) rfl
theorem ly_6_16 : u_lay RX6 TX6 16 ∈ tb := tb_of (in_4 _ (List.mem_of_getElem? (i := 168) rfl)) rfl
theorem ly_6_17 : u_lay RX6 TX6 17 ∈ tb := tb_of (in_4 _ (List.mem_of_getElem? (i := 170) rfl)) rfl
theorem ly_6_18 : u_lay RX6 TX6 18 ∈ tb := tb_of (in_4 _ (List.mem_of_getElem? (i := 172) rfl)) rfl
theorem ly_6_19 : u_lay RX6 TX6 19 ∈ tb := tb_of (in_4 _ (List.mem_of_getElem? (i := 174) rfl)) rfl
theorem ly_6_20 : u_lay RX6 TX6 20 ∈ tb := tb_of (in_4 _ (List.mem_of_getElem? (i := 176) rfl)) rfl
theorem ly_6_21 : u_lay RX6 TX6 21 ∈ tb := tb_of (in_4 _ (List.mem_of_getElem? (i := 178) rfl)) rfl
theorem ly_6_22 : u_lay RX6 TX6 22 ∈ tb := tb_of (in_4 _ (List.mem_of_getElem? (i := 180) rfl)) rfl
theorem ly_6_23 : u_lay RX6 TX6 23 ∈ tb := tb_of (in_4 _ (List.mem_of_getElem? (i := 182) rfl)) rfl
theorem ly_6_24 : u_lay RX6 TX6 24 ∈ tb := tb_of (in_4 _ (List.mem_of_getElem? (i := 184) rfl)) rfl
theorem ly_6_25 : u_lay RX6 TX6 25 ∈ tb := tb_of (in_4 _ (List.mem_of_getElem? (i := 186) rfl)) rfl
theorem ly_6_26 : u_lay RX6 TX6 26 ∈ tb := tb_of (in_4 _ (List.mem_of_getElem? (i := 188) rfl)) rfl
theorem ly_6_27 : u_lay RX6 TX6 27 ∈ tb := tb_of (in_4 _ (List.mem_of_getElem? (i := 190) rfl)) rfl
theorem ly_6_28 : u_lay RX6 TX6 28 ∈ tb := tb_of (in_4 _ (List.mem_of_getElem? (i := 192) rfl)) rfl
theorem ly_6_29 : u_lay RX6 TX6 29 ∈ tb := tb_of (in_4 _ (List.mem_of_getElem? (i := 194) rfl)) rfl
theorem ly_6_30 : u_lay RX6 TX6 30 ∈ tb := tb_of (in_4 _ (List.mem_of_getElem? (i := 196) rfl)) rfl
theorem ly_6_31 : u_lay RX6 TX6 31 ∈ tb := tb_of (in_4 _ (List.mem_of_getElem? (i := 198) rfl)) rfl
theorem ly_6_32 : u_lay RX6 TX6 32 ∈ tb := tb_of (in_4 _ (List.mem_of_getElem? (i := 200) rfl)) rfl
theorem ly_6_33 : u_lay RX6 TX6 33 ∈ tb := tb_of (in_4 _ (List.mem_of_getElem? (i := 202) rfl)) rfl
theorem ly_6_34 : u_lay RX6 TX6 34 ∈ tb := tb_of (in_4 _ (List.mem_of_getElem? (i := 204) rfl)) rfl
theorem ly_6_35 : u_lay RX6 TX6 35 ∈ tb := tb_of (in_4 _ (List.mem_of_getElem? (i := 206) rfl)) rfl
theorem ly_6_36 : u_lay RX6 TX6 36 ∈ tb := tb_of (in_4 _ (List.mem_of_getElem? (i := 208) rfl)) rfl
theorem inT6 : ∀ w ∈ wsX60, w ∈ tb := by
  intro w hw
  obtain ⟨k, hk, rfl⟩ := List.mem_map.mp hw
  have hk := List.mem_range.mp hk
  match k, hk with
  | 0, _ => exact ly_6_0
  | 1, _ => exact ly_6_1
  | 2, _ => exact ly_6_2
  | 3, _ => exact ly_6_3
  | 4, _ => exact ly_6_4
  | 5, _ => exact ly_6_5
  | 6, _ => exact ly_6_6
  | 7, _ => exact ly_6_7
  | 8, _ => exact ly_6_8
  | 9, _ => exact ly_6_9
  | 10, _ => exact ly_6_10
  | 11, _ => exact ly_6_11
  | 12, _ => exact ly_6_12
  | 13, _ => exact ly_6_13
  | 14, _ => exact ly_6_14
  | 15, _ => exact ly_6_15
  | 16, _ => exact ly_6_16
  | 17, _ => exact ly_6_17
  | 18, _ => exact ly_6_18
  | 19, _ => exact ly_6_19
  | 20, _ => exact ly_6_20
  | 21, _ => exact ly_6_21
  | 22, _ => exact ly_6_22
  | 23, _ => exact ly_6_23
  | 24, _ => exact ly_6_24
  | 25, _ => exact ly_6_25
  | 26, _ => exact ly_6_26
  | 27, _ => exact ly_6_27
  | 28, _ => exact ly_6_28
  | 29, _ => exact ly_6_29
  | 30, _ => exact ly_6_30
  | 31, _ => exact ly_6_31
  | 32, _ => exact ly_6_32
  | 33, _ => exact ly_6_33
  | 34, _ => exact ly_6_34
  | 35, _ => exact ly_6_35
  | 36, _ => exact ly_6_36
  | k + 37, hk => exact absurd hk (by omega)
