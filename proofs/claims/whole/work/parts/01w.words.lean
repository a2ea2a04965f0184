def gw : List Cond := lw_tbl.filter goodWord
theorem gw_of {w : Cond} (h : w ∈ tables_1) (hg : goodWord w = true) : w ∈ gw := List.mem_filter.mpr ⟨List.mem_append_right _ h, hg⟩
theorem gw_sel {w : Cond} (h : w ∈ k2_sels lw_privs) (hg : goodWord w = true) : w ∈ gw := List.mem_filter.mpr ⟨List.mem_append_left _ h, hg⟩
theorem t_1 {w : Cond} (h : w ∈ tables_1_1) : w ∈ tables_1 := List.mem_append_left _ h
theorem t_2 {w : Cond} (h : w ∈ tables_1_2) : w ∈ tables_1 := List.mem_append_right _ (List.mem_append_left _ h)
theorem t_3 {w : Cond} (h : w ∈ tables_1_3) : w ∈ tables_1 := List.mem_append_right _ (List.mem_append_right _ (List.mem_append_left _ h))
theorem t_4 {w : Cond} (h : w ∈ tables_1_4) : w ∈ tables_1 := List.mem_append_right _ (List.mem_append_right _ (List.mem_append_right _ h))
theorem gw_in (w : Cond) (h : w ∈ gw) : w ∈ lw_tbl := (List.mem_filter.mp h).1
theorem gw_good {ws : List Cond} (h : ∀ w ∈ ws, w ∈ gw) : GoodIn gw ws := fun w hw => ⟨h w hw, good_of_word (List.mem_filter.mp (h w hw)).2⟩
theorem gw_code {c0 : Cond} (h : c0 ∈ gw) : GoodIn gw (c0 :: gw) := gw_good (fun w hw => (List.mem_cons.mp hw).elim (fun e => e ▸ h) id)
theorem gw_V {own C : String} {idx : Nat} {y : MethodName} {ws : List Cond} (h1 : Cond.methodLink own idx y ∈ gw) (h2 : Cond.instanceMethod y ∈ gw) (h3 : Cond.selects C y y ∈ gw) (h4 : Cond.initialized C ∈ gw) (h5 : ∀ w ∈ ws, w ∈ gw) : GoodIn gw (wsV own idx C y ws) := gw_good (fun w hw => by
  unfold wsV at hw
  rcases List.mem_append.mp hw with h | h
  · simp only [List.mem_cons, List.not_mem_nil, or_false] at h
    rcases h with rfl | rfl | rfl | rfl
    · exact h1
    · exact h2
    · exact h3
    · exact h4
  · exact h5 w h)
theorem gw_S {own : String} {idx : Nat} {y : MethodName} {ws : List Cond} (h1 : Cond.methodLink own idx y ∈ gw) (h2 : Cond.static y ∈ gw) (h4 : Cond.initialized y.cls ∈ gw) (h5 : ∀ w ∈ ws, w ∈ gw) : GoodIn gw (va_wsS own idx y ws) := gw_good (fun w hw => by
  unfold va_wsS at hw
  rcases List.mem_append.mp hw with h | h
  · simp only [List.mem_cons, List.not_mem_nil, or_false] at h
    rcases h with rfl | rfl | rfl
    · exact h1
    · exact h2
    · exact h4
  · exact h5 w h)
theorem gw_c {c0 : Cond} (h : c0 ∈ gw) : ∀ w ∈ (c0 :: gw), w ∈ gw := fun w hw => (List.mem_cons.mp hw).elim (fun e => e ▸ h) id
theorem wIN_L : Cond.initialized RL ∈ gw := gw_of (t_1 (List.mem_of_getElem? (i := 0) rfl)) rfl
theorem wIN_X6 : Cond.initialized RX6 ∈ gw := gw_of (t_1 (List.mem_of_getElem? (i := 1) rfl)) rfl
theorem wIN_X3 : Cond.initialized RX3 ∈ gw := gw_of (t_1 (List.mem_of_getElem? (i := 2) rfl)) rfl
theorem wIN_X0 : Cond.initialized RX0 ∈ gw := gw_of (t_1 (List.mem_of_getElem? (i := 3) rfl)) rfl
theorem wIN_X1 : Cond.initialized RX1 ∈ gw := gw_of (t_1 (List.mem_of_getElem? (i := 4) rfl)) rfl
theorem wIN_X4 : Cond.initialized RX4 ∈ gw := gw_of (t_1 (List.mem_of_getElem? (i := 5) rfl)) rfl
theorem wIN_X2 : Cond.initialized RX2 ∈ gw := gw_of (t_1 (List.mem_of_getElem? (i := 6) rfl)) rfl
theorem wIN_X5 : Cond.initialized RX5 ∈ gw := gw_of (t_1 (List.mem_of_getElem? (i := 7) rfl)) rfl
theorem wIN_X7 : Cond.initialized RX7 ∈ gw := gw_of (t_1 (List.mem_of_getElem? (i := 8) rfl)) rfl
theorem wIN_J9 : Cond.initialized RJ9 ∈ gw := gw_of (t_1 (List.mem_of_getElem? (i := 9) rfl)) rfl
theorem wIN_J13 : Cond.initialized RJ13 ∈ gw := gw_of (t_1 (List.mem_of_getElem? (i := 10) rfl)) rfl
theorem wIN_J6 : Cond.initialized RJ6 ∈ gw := gw_of (t_1 (List.mem_of_getElem? (i := 11) rfl)) rfl
theorem wCL_L_7 : Cond.classLink RL 7 RX6 ∈ gw := gw_of (t_1 (List.mem_of_getElem? (i := 12) rfl)) rfl
theorem wIS_X6 : Cond.instantiable RX6 7 ∈ gw := gw_of (t_1 (List.mem_of_getElem? (i := 13) rfl)) rfl
theorem wML_L_9 : Cond.methodLink RL 9 yX6_init ∈ gw := gw_of (t_1 (List.mem_of_getElem? (i := 14) rfl)) rfl
theorem wIM_X6_init : Cond.instanceMethod yX6_init ∈ gw := gw_of (t_1 (List.mem_of_getElem? (i := 15) rfl)) rfl
theorem wCD_X6_init : Cond.code yX6_init cX6_init 1 none ∈ gw := gw_of (t_1 (List.mem_of_getElem? (i := 16) rfl)) rfl
theorem wML_X6_1 : Cond.methodLink RX6 1 objectInit ∈ gw := gw_of (t_1 (List.mem_of_getElem? (i := 17) rfl)) rfl
theorem wIM_O : Cond.instanceMethod objectInit ∈ gw := gw_of (t_1 (List.mem_of_getElem? (i := 18) rfl)) rfl
theorem wCD_O : Cond.code objectInit object_method_1_code 1 none ∈ gw := gw_of (t_1 (List.mem_of_getElem? (i := 19) rfl)) rfl
theorem wCL_X6_7 : Cond.classLink RX6 7 RX3 ∈ gw := gw_of (t_1 (List.mem_of_getElem? (i := 20) rfl)) rfl
theorem wIS_X3 : Cond.instantiable RX3 2 ∈ gw := gw_of (t_1 (List.mem_of_getElem? (i := 21) rfl)) rfl
theorem wML_X6_9 : Cond.methodLink RX6 9 yX3_init ∈ gw := gw_of (t_1 (List.mem_of_getElem? (i := 22) rfl)) rfl
theorem wIM_X3_init : Cond.instanceMethod yX3_init ∈ gw := gw_of (t_1 (List.mem_of_getElem? (i := 23) rfl)) rfl
theorem wCD_X3_init : Cond.code yX3_init cX3_init 1 none ∈ gw := gw_of (t_1 (List.mem_of_getElem? (i := 24) rfl)) rfl
theorem wML_X3_3 : Cond.methodLink RX3 3 objectInit ∈ gw := gw_of (t_1 (List.mem_of_getElem? (i := 25) rfl)) rfl
theorem wFL_X3_9 : Cond.fieldLink RX3 9 RX3 "symbols" "[I" ∈ gw := gw_of (t_1 (List.mem_of_getElem? (i := 26) rfl)) rfl
theorem wFL_X3_15 : Cond.fieldLink RX3 15 RX3 "size" "I" ∈ gw := gw_of (t_1 (List.mem_of_getElem? (i := 27) rfl)) rfl
theorem wLY_X3_symbols : Cond.laysFinal RX3 RX3 "symbols" "[I" ∈ gw := gw_of (t_1 (List.mem_of_getElem? (i := 28) rfl)) rfl
theorem wLY_X3_size : Cond.lays RX3 RX3 "size" "I" ∈ gw := gw_of (t_1 (List.mem_of_getElem? (i := 30) rfl)) rfl
theorem wAC_int : Cond.arrayClass FieldType.int ∈ gw := gw_of (t_1 (List.mem_of_getElem? (i := 33) rfl)) rfl
theorem wCL_X6_16 : Cond.classLink RX6 16 RX0 ∈ gw := gw_of (t_1 (List.mem_of_getElem? (i := 34) rfl)) rfl
theorem wIS_X0 : Cond.instantiable RX0 2 ∈ gw := gw_of (t_1 (List.mem_of_getElem? (i := 35) rfl)) rfl
theorem wML_X6_18 : Cond.methodLink RX6 18 yX0_init ∈ gw := gw_of (t_1 (List.mem_of_getElem? (i := 36) rfl)) rfl
theorem wIM_X0_init : Cond.instanceMethod yX0_init ∈ gw := gw_of (t_1 (List.mem_of_getElem? (i := 37) rfl)) rfl
theorem wCD_X0_init : Cond.code yX0_init cX0_init 2 none ∈ gw := gw_of (t_1 (List.mem_of_getElem? (i := 38) rfl)) rfl
theorem wML_X0_3 : Cond.methodLink RX0 3 objectInit ∈ gw := gw_of (t_1 (List.mem_of_getElem? (i := 39) rfl)) rfl
theorem wCL_X0_9 : Cond.classLink RX0 9 RX3 ∈ gw := gw_of (t_1 (List.mem_of_getElem? (i := 40) rfl)) rfl
theorem wML_X0_17 : Cond.methodLink RX0 17 yX3_init ∈ gw := gw_of (t_1 (List.mem_of_getElem? (i := 42) rfl)) rfl
theorem wFL_X0_11 : Cond.fieldLink RX0 11 RX0 "states" "[LBitLevels$Row;" ∈ gw := gw_of (t_1 (List.mem_of_getElem? (i := 43) rfl)) rfl
theorem wFL_X0_18 : Cond.fieldLink RX0 18 RX0 "size" "I" ∈ gw := gw_of (t_1 (List.mem_of_getElem? (i := 44) rfl)) rfl
theorem wLY_X0_states : Cond.laysFinal RX0 RX0 "states" "[LBitLevels$Row;" ∈ gw := gw_of (t_1 (List.mem_of_getElem? (i := 45) rfl)) rfl
theorem wLY_X0_size : Cond.lays RX0 RX0 "size" "I" ∈ gw := gw_of (t_1 (List.mem_of_getElem? (i := 47) rfl)) rfl
theorem wCL_X6_23 : Cond.classLink RX6 23 RX1 ∈ gw := gw_of (t_1 (List.mem_of_getElem? (i := 50) rfl)) rfl
theorem wIS_X1 : Cond.instantiable RX1 4 ∈ gw := gw_of (t_1 (List.mem_of_getElem? (i := 51) rfl)) rfl
theorem wML_X6_25 : Cond.methodLink RX6 25 yX1_init ∈ gw := gw_of (t_1 (List.mem_of_getElem? (i := 52) rfl)) rfl
theorem wIM_X1_init : Cond.instanceMethod yX1_init ∈ gw := gw_of (t_1 (List.mem_of_getElem? (i := 53) rfl)) rfl
theorem wCD_X1_init : Cond.code yX1_init cX1_init 1 none ∈ gw := gw_of (t_1 (List.mem_of_getElem? (i := 54) rfl)) rfl
theorem wML_X1_3 : Cond.methodLink RX1 3 objectInit ∈ gw := gw_of (t_1 (List.mem_of_getElem? (i := 55) rfl)) rfl
theorem wCL_X1_9 : Cond.classLink RX1 9 "[[I" ∈ gw := gw_of (t_1 (List.mem_of_getElem? (i := 56) rfl)) rfl
theorem wFL_X1_11 : Cond.fieldLink RX1 11 RX1 "symbols" "[[I" ∈ gw := gw_of (t_1 (List.mem_of_getElem? (i := 58) rfl)) rfl
theorem wFL_X1_16 : Cond.fieldLink RX1 16 RX1 "origins" "[[I" ∈ gw := gw_of (t_1 (List.mem_of_getElem? (i := 59) rfl)) rfl
theorem wFL_X1_19 : Cond.fieldLink RX1 19 RX1 "goals" "[[I" ∈ gw := gw_of (t_1 (List.mem_of_getElem? (i := 60) rfl)) rfl
theorem wFL_X1_22 : Cond.fieldLink RX1 22 RX1 "size" "I" ∈ gw := gw_of (t_1 (List.mem_of_getElem? (i := 61) rfl)) rfl
theorem wLY_X1_symbols : Cond.laysFinal RX1 RX1 "symbols" "[[I" ∈ gw := gw_of (t_1 (List.mem_of_getElem? (i := 62) rfl)) rfl
theorem wLY_X1_origins : Cond.laysFinal RX1 RX1 "origins" "[[I" ∈ gw := gw_of (t_1 (List.mem_of_getElem? (i := 64) rfl)) rfl
theorem wLY_X1_goals : Cond.laysFinal RX1 RX1 "goals" "[[I" ∈ gw := gw_of (t_1 (List.mem_of_getElem? (i := 66) rfl)) rfl
theorem wLY_X1_size : Cond.lays RX1 RX1 "size" "I" ∈ gw := gw_of (t_1 (List.mem_of_getElem? (i := 68) rfl)) rfl
theorem wCL_X6_30 : Cond.classLink RX6 30 RX4 ∈ gw := gw_of (t_1 (List.mem_of_getElem? (i := 71) rfl)) rfl
theorem wIS_X4 : Cond.instantiable RX4 1 ∈ gw := gw_of (t_1 (List.mem_of_getElem? (i := 72) rfl)) rfl
theorem wML_X6_32 : Cond.methodLink RX6 32 yX4_init ∈ gw := gw_of (t_1 (List.mem_of_getElem? (i := 73) rfl)) rfl
theorem wIM_X4_init : Cond.instanceMethod yX4_init ∈ gw := gw_of (t_1 (List.mem_of_getElem? (i := 74) rfl)) rfl
theorem wCD_X4_init : Cond.code yX4_init cX4_init 1 none ∈ gw := gw_of (t_1 (List.mem_of_getElem? (i := 75) rfl)) rfl
theorem wML_X4_3 : Cond.methodLink RX4 3 objectInit ∈ gw := gw_of (t_1 (List.mem_of_getElem? (i := 76) rfl)) rfl
theorem wFL_X4_9 : Cond.fieldLink RX4 9 RX4 "times" "[I" ∈ gw := gw_of (t_1 (List.mem_of_getElem? (i := 77) rfl)) rfl
theorem wLY_X4_times : Cond.laysFinal RX4 RX4 "times" "[I" ∈ gw := gw_of (t_1 (List.mem_of_getElem? (i := 78) rfl)) rfl
theorem wCL_X6_40 : Cond.classLink RX6 40 RX2 ∈ gw := gw_of (t_1 (List.mem_of_getElem? (i := 81) rfl)) rfl
theorem wIS_X2 : Cond.instantiable RX2 10 ∈ gw := gw_of (t_1 (List.mem_of_getElem? (i := 82) rfl)) rfl
theorem wML_X6_42 : Cond.methodLink RX6 42 yX2_init ∈ gw := gw_of (t_1 (List.mem_of_getElem? (i := 83) rfl)) rfl
theorem wIM_X2_init : Cond.instanceMethod yX2_init ∈ gw := gw_of (t_1 (List.mem_of_getElem? (i := 84) rfl)) rfl
theorem wCD_X2_init : Cond.code yX2_init cX2_init 1 none ∈ gw := gw_of (t_1 (List.mem_of_getElem? (i := 85) rfl)) rfl
theorem wML_X2_3 : Cond.methodLink RX2 3 objectInit ∈ gw := gw_of (t_1 (List.mem_of_getElem? (i := 86) rfl)) rfl
theorem wCL_X2_9 : Cond.classLink RX2 9 RX5 ∈ gw := gw_of (t_1 (List.mem_of_getElem? (i := 87) rfl)) rfl
theorem wIS_X5 : Cond.instantiable RX5 2 ∈ gw := gw_of (t_1 (List.mem_of_getElem? (i := 88) rfl)) rfl
theorem wML_X2_11 : Cond.methodLink RX2 11 yX5_init ∈ gw := gw_of (t_1 (List.mem_of_getElem? (i := 89) rfl)) rfl
theorem wIM_X5_init : Cond.instanceMethod yX5_init ∈ gw := gw_of (t_1 (List.mem_of_getElem? (i := 90) rfl)) rfl
theorem wCD_X5_init : Cond.code yX5_init cX5_init 1 none ∈ gw := gw_of (t_1 (List.mem_of_getElem? (i := 91) rfl)) rfl
theorem wML_X5_3 : Cond.methodLink RX5 3 objectInit ∈ gw := gw_of (t_1 (List.mem_of_getElem? (i := 92) rfl)) rfl
theorem wFL_X5_9 : Cond.fieldLink RX5 9 RX5 "characters" "[C" ∈ gw := gw_of (t_1 (List.mem_of_getElem? (i := 93) rfl)) rfl
theorem wFL_X5_15 : Cond.fieldLink RX5 15 RX5 "length" "I" ∈ gw := gw_of (t_1 (List.mem_of_getElem? (i := 94) rfl)) rfl
theorem wLY_X5_characters : Cond.laysFinal RX5 RX5 "characters" "[C" ∈ gw := gw_of (t_1 (List.mem_of_getElem? (i := 95) rfl)) rfl
theorem wLY_X5_length : Cond.lays RX5 RX5 "length" "I" ∈ gw := gw_of (t_1 (List.mem_of_getElem? (i := 97) rfl)) rfl
theorem wAC_char : Cond.arrayClass FieldType.char ∈ gw := gw_of (t_1 (List.mem_of_getElem? (i := 100) rfl)) rfl
theorem wCL_X2_18 : Cond.classLink RX2 18 RX3 ∈ gw := gw_of (t_1 (List.mem_of_getElem? (i := 101) rfl)) rfl
theorem wML_X2_20 : Cond.methodLink RX2 20 yX3_init ∈ gw := gw_of (t_1 (List.mem_of_getElem? (i := 102) rfl)) rfl
theorem wFL_X2_12 : Cond.fieldLink RX2 12 RX2 "text" "LBitLevels$Text;" ∈ gw := gw_of (t_1 (List.mem_of_getElem? (i := 103) rfl)) rfl
theorem wFL_X2_21 : Cond.fieldLink RX2 21 RX2 "outcome" "LBitLevels$Row;" ∈ gw := gw_of (t_1 (List.mem_of_getElem? (i := 104) rfl)) rfl
theorem wFL_X2_39 : Cond.fieldLink RX2 39 RX2 "next" "I" ∈ gw := gw_of (t_1 (List.mem_of_getElem? (i := 105) rfl)) rfl
theorem wFL_X2_63 : Cond.fieldLink RX2 63 RX2 "kind" "I" ∈ gw := gw_of (t_1 (List.mem_of_getElem? (i := 106) rfl)) rfl
theorem wFL_X2_69 : Cond.fieldLink RX2 69 RX2 "first" "I" ∈ gw := gw_of (t_1 (List.mem_of_getElem? (i := 107) rfl)) rfl
theorem wFL_X2_79 : Cond.fieldLink RX2 79 RX2 "second" "I" ∈ gw := gw_of (t_1 (List.mem_of_getElem? (i := 108) rfl)) rfl
theorem wFL_X2_85 : Cond.fieldLink RX2 85 RX2 "symbolsFrom" "I" ∈ gw := gw_of (t_1 (List.mem_of_getElem? (i := 109) rfl)) rfl
theorem wFL_X2_25 : Cond.fieldLink RX2 25 RX2 "position" "I" ∈ gw := gw_of (t_1 (List.mem_of_getElem? (i := 110) rfl)) rfl
theorem wFL_X2_29 : Cond.fieldLink RX2 29 RX2 "reason" "I" ∈ gw := gw_of (t_1 (List.mem_of_getElem? (i := 111) rfl)) rfl
theorem wFL_X2_32 : Cond.fieldLink RX2 32 RX2 "cause" "I" ∈ gw := gw_of (t_1 (List.mem_of_getElem? (i := 112) rfl)) rfl
theorem wLY_X2_text : Cond.laysFinal RX2 RX2 "text" "LBitLevels$Text;" ∈ gw := gw_of (t_1 (List.mem_of_getElem? (i := 113) rfl)) rfl
theorem wLY_X2_outcome : Cond.laysFinal RX2 RX2 "outcome" "LBitLevels$Row;" ∈ gw := gw_of (t_1 (List.mem_of_getElem? (i := 115) rfl)) rfl
theorem wLY_X2_next : Cond.lays RX2 RX2 "next" "I" ∈ gw := gw_of (t_1 (List.mem_of_getElem? (i := 117) rfl)) rfl
theorem wLY_X2_kind : Cond.lays RX2 RX2 "kind" "I" ∈ gw := gw_of (t_1 (List.mem_of_getElem? (i := 119) rfl)) rfl
theorem wLY_X2_first : Cond.lays RX2 RX2 "first" "I" ∈ gw := gw_of (t_1 (List.mem_of_getElem? (i := 121) rfl)) rfl
theorem wLY_X2_second : Cond.lays RX2 RX2 "second" "I" ∈ gw := gw_of (t_1 (List.mem_of_getElem? (i := 123) rfl)) rfl
theorem wLY_X2_symbolsFrom : Cond.lays RX2 RX2 "symbolsFrom" "I" ∈ gw := gw_of (t_1 (List.mem_of_getElem? (i := 125) rfl)) rfl
theorem wLY_X2_position : Cond.lays RX2 RX2 "position" "I" ∈ gw := gw_of (t_1 (List.mem_of_getElem? (i := 127) rfl)) rfl
theorem wLY_X2_reason : Cond.lays RX2 RX2 "reason" "I" ∈ gw := gw_of (t_1 (List.mem_of_getElem? (i := 129) rfl)) rfl
theorem wLY_X2_cause : Cond.lays RX2 RX2 "cause" "I" ∈ gw := gw_of (t_1 (List.mem_of_getElem? (i := 131) rfl)) rfl
theorem wML_X6_47 : Cond.methodLink RX6 47 yX2_text ∈ gw := gw_of (t_1 (List.mem_of_getElem? (i := 134) rfl)) rfl
theorem wIM_X2_text : Cond.instanceMethod yX2_text ∈ gw := gw_of (t_1 (List.mem_of_getElem? (i := 135) rfl)) rfl
theorem wSE_X2_text : Cond.selects RX2 yX2_text yX2_text ∈ gw := gw_of (t_1 (List.mem_of_getElem? (i := 136) rfl)) rfl
theorem wCD_X2_text : Cond.code yX2_text cX2_text 1 (Option.some (FieldType.object "BitLevels$Text")) ∈ gw := gw_of (t_1 (List.mem_of_getElem? (i := 137) rfl)) rfl
theorem wFL_X6_10 : Cond.fieldLink RX6 10 RX6 "row" "LBitLevels$Row;" ∈ gw := gw_of (t_1 (List.mem_of_getElem? (i := 138) rfl)) rfl
theorem wFL_X6_19 : Cond.fieldLink RX6 19 RX6 "history" "LBitLevels$History;" ∈ gw := gw_of (t_1 (List.mem_of_getElem? (i := 139) rfl)) rfl
theorem wFL_X6_26 : Cond.fieldLink RX6 26 RX6 "levels" "LBitLevels$Levels;" ∈ gw := gw_of (t_1 (List.mem_of_getElem? (i := 140) rfl)) rfl
theorem wFL_X6_33 : Cond.fieldLink RX6 33 RX6 "tally" "LBitLevels$Tally;" ∈ gw := gw_of (t_1 (List.mem_of_getElem? (i := 141) rfl)) rfl
theorem wFL_X6_37 : Cond.fieldLink RX6 37 RX6 "otherTally" "LBitLevels$Tally;" ∈ gw := gw_of (t_1 (List.mem_of_getElem? (i := 142) rfl)) rfl
theorem wFL_X6_43 : Cond.fieldLink RX6 43 RX6 "player" "LBitLevels$Player;" ∈ gw := gw_of (t_1 (List.mem_of_getElem? (i := 143) rfl)) rfl
theorem wFL_X6_51 : Cond.fieldLink RX6 51 RX6 "text" "LBitLevels$Text;" ∈ gw := gw_of (t_1 (List.mem_of_getElem? (i := 144) rfl)) rfl
theorem wLY_X6_row : Cond.laysFinal RX6 RX6 "row" "LBitLevels$Row;" ∈ gw := gw_of (t_1 (List.mem_of_getElem? (i := 145) rfl)) rfl
theorem wLY_X6_history : Cond.laysFinal RX6 RX6 "history" "LBitLevels$History;" ∈ gw := gw_of (t_1 (List.mem_of_getElem? (i := 147) rfl)) rfl
theorem wLY_X6_levels : Cond.laysFinal RX6 RX6 "levels" "LBitLevels$Levels;" ∈ gw := gw_of (t_1 (List.mem_of_getElem? (i := 149) rfl)) rfl
theorem wLY_X6_tally : Cond.laysFinal RX6 RX6 "tally" "LBitLevels$Tally;" ∈ gw := gw_of (t_1 (List.mem_of_getElem? (i := 151) rfl)) rfl
theorem wLY_X6_otherTally : Cond.laysFinal RX6 RX6 "otherTally" "LBitLevels$Tally;" ∈ gw := gw_of (t_1 (List.mem_of_getElem? (i := 153) rfl)) rfl
theorem wLY_X6_player : Cond.laysFinal RX6 RX6 "player" "LBitLevels$Player;" ∈ gw := gw_of (t_1 (List.mem_of_getElem? (i := 155) rfl)) rfl
theorem wLY_X6_text : Cond.laysFinal RX6 RX6 "text" "LBitLevels$Text;" ∈ gw := gw_of (t_1 (List.mem_of_getElem? (i := 157) rfl)) rfl
theorem wML_L_13 : Cond.methodLink RL 13 yX6_put ∈ gw := gw_of (t_1 (List.mem_of_getElem? (i := 160) rfl)) rfl
theorem wIM_X6_put : Cond.instanceMethod yX6_put ∈ gw := gw_of (t_1 (List.mem_of_getElem? (i := 161) rfl)) rfl
theorem wSE_X6_put : Cond.selects RX6 yX6_put yX6_put ∈ gw := gw_of (t_1 (List.mem_of_getElem? (i := 162) rfl)) rfl
theorem wCD_X6_put : Cond.code yX6_put cX6_put 3 (Option.some FieldType.int) ∈ gw := gw_of (t_1 (List.mem_of_getElem? (i := 163) rfl)) rfl
theorem wML_X6_54 : Cond.methodLink RX6 54 yX3_size ∈ gw := gw_of (t_1 (List.mem_of_getElem? (i := 164) rfl)) rfl
theorem wIM_X3_size : Cond.instanceMethod yX3_size ∈ gw := gw_of (t_1 (List.mem_of_getElem? (i := 165) rfl)) rfl
theorem wSE_X3_size : Cond.selects RX3 yX3_size yX3_size ∈ gw := gw_of (t_1 (List.mem_of_getElem? (i := 166) rfl)) rfl
theorem wCD_X3_size : Cond.code yX3_size cX3_size 1 (Option.some FieldType.int) ∈ gw := gw_of (t_1 (List.mem_of_getElem? (i := 167) rfl)) rfl
theorem wML_X6_58 : Cond.methodLink RX6 58 yX6_isAtMost ∈ gw := gw_of (t_1 (List.mem_of_getElem? (i := 168) rfl)) rfl
theorem wST_X6_isAtMost : Cond.static yX6_isAtMost ∈ gw := gw_of (t_1 (List.mem_of_getElem? (i := 169) rfl)) rfl
theorem wCD_X6_isAtMost : Cond.code yX6_isAtMost cX6_isAtMost 2 (Option.some FieldType.boolean) ∈ gw := gw_of (t_1 (List.mem_of_getElem? (i := 170) rfl)) rfl
theorem wML_X6_62 : Cond.methodLink RX6 62 yX6_isSymbol ∈ gw := gw_of (t_1 (List.mem_of_getElem? (i := 171) rfl)) rfl
theorem wST_X6_isSymbol : Cond.static yX6_isSymbol ∈ gw := gw_of (t_1 (List.mem_of_getElem? (i := 172) rfl)) rfl
theorem wCD_X6_isSymbol : Cond.code yX6_isSymbol cX6_isSymbol 1 (Option.some FieldType.boolean) ∈ gw := gw_of (t_1 (List.mem_of_getElem? (i := 173) rfl)) rfl
theorem wKI_X6_66 : Cond.constant RX6 66 (-1000001) ∈ gw := gw_of (t_1 (List.mem_of_getElem? (i := 174) rfl)) rfl
theorem wKI_X6_67 : Cond.constant RX6 67 (-1000003) ∈ gw := gw_of (t_1 (List.mem_of_getElem? (i := 175) rfl)) rfl
theorem wML_X6_68 : Cond.methodLink RX6 68 yX0_remember ∈ gw := gw_of (t_1 (List.mem_of_getElem? (i := 176) rfl)) rfl
theorem wIM_X0_remember : Cond.instanceMethod yX0_remember ∈ gw := gw_of (t_1 (List.mem_of_getElem? (i := 177) rfl)) rfl
theorem wSE_X0_remember : Cond.selects RX0 yX0_remember yX0_remember ∈ gw := gw_of (t_1 (List.mem_of_getElem? (i := 178) rfl)) rfl
theorem wCD_X0_remember : Cond.code yX0_remember cX0_remember 2 none ∈ gw := gw_of (t_1 (List.mem_of_getElem? (i := 179) rfl)) rfl
theorem wML_X0_22 : Cond.methodLink RX0 22 yX0_dropOldest ∈ gw := gw_of (t_1 (List.mem_of_getElem? (i := 180) rfl)) rfl
theorem wIM_X0_dropOldest : Cond.instanceMethod yX0_dropOldest ∈ gw := gw_of (t_1 (List.mem_of_getElem? (i := 182) rfl)) rfl
theorem wCD_X0_dropOldest : Cond.code yX0_dropOldest cX0_dropOldest 2 none ∈ gw := gw_of (t_1 (List.mem_of_getElem? (i := 183) rfl)) rfl
theorem wML_X0_25 : Cond.methodLink RX0 25 yX3_copyFrom ∈ gw := gw_of (t_1 (List.mem_of_getElem? (i := 184) rfl)) rfl
theorem wIM_X3_copyFrom : Cond.instanceMethod yX3_copyFrom ∈ gw := gw_of (t_1 (List.mem_of_getElem? (i := 185) rfl)) rfl
theorem wSE_X3_copyFrom : Cond.selects RX3 yX3_copyFrom yX3_copyFrom ∈ gw := gw_of (t_1 (List.mem_of_getElem? (i := 186) rfl)) rfl
theorem wCD_X3_copyFrom : Cond.code yX3_copyFrom cX3_copyFrom 3 none ∈ gw := gw_of (t_1 (List.mem_of_getElem? (i := 187) rfl)) rfl
theorem wML_X6_72 : Cond.methodLink RX6 72 yX3_insert ∈ gw := gw_of (t_1 (List.mem_of_getElem? (i := 188) rfl)) rfl
theorem wIM_X3_insert : Cond.instanceMethod yX3_insert ∈ gw := gw_of (t_1 (List.mem_of_getElem? (i := 189) rfl)) rfl
theorem wSE_X3_insert : Cond.selects RX3 yX3_insert yX3_insert ∈ gw := gw_of (t_1 (List.mem_of_getElem? (i := 190) rfl)) rfl
theorem wCD_X3_insert : Cond.code yX3_insert cX3_insert 4 none ∈ gw := gw_of (t_1 (List.mem_of_getElem? (i := 191) rfl)) rfl
theorem wMN_X3_23 : Cond.methodLinkNest RX3 23 yX6_isAtMost "BitLevels" ∈ lw_tbl := List.mem_append_right _ (t_1 (List.mem_of_getElem? (i := 192) rfl))
theorem wML_L_18 : Cond.methodLink RL 18 yX6_take ∈ gw := gw_of (t_1 (List.mem_of_getElem? (i := 193) rfl)) rfl
theorem wIM_X6_take : Cond.instanceMethod yX6_take ∈ gw := gw_of (t_1 (List.mem_of_getElem? (i := 194) rfl)) rfl
theorem wSE_X6_take : Cond.selects RX6 yX6_take yX6_take ∈ gw := gw_of (t_1 (List.mem_of_getElem? (i := 195) rfl)) rfl
theorem wCD_X6_take : Cond.code yX6_take cX6_take 3 (Option.some FieldType.int) ∈ gw := gw_of (t_1 (List.mem_of_getElem? (i := 196) rfl)) rfl
theorem wML_X6_76 : Cond.methodLink RX6 76 yX3_hasPlace ∈ gw := gw_of (t_1 (List.mem_of_getElem? (i := 197) rfl)) rfl
theorem wIM_X3_hasPlace : Cond.instanceMethod yX3_hasPlace ∈ gw := gw_of (t_1 (List.mem_of_getElem? (i := 198) rfl)) rfl
theorem wSE_X3_hasPlace : Cond.selects RX3 yX3_hasPlace yX3_hasPlace ∈ gw := gw_of (t_1 (List.mem_of_getElem? (i := 199) rfl)) rfl
theorem wCD_X3_hasPlace : Cond.code yX3_hasPlace cX3_hasPlace 2 (Option.some FieldType.boolean) ∈ gw := gw_of (t_1 (List.mem_of_getElem? (i := 200) rfl)) rfl
theorem wML_X6_79 : Cond.methodLink RX6 79 yX3_at ∈ gw := gw_of (t_1 (List.mem_of_getElem? (i := 201) rfl)) rfl
theorem wIM_X3_at : Cond.instanceMethod yX3_at ∈ gw := gw_of (t_1 (List.mem_of_getElem? (i := 202) rfl)) rfl
theorem wSE_X3_at : Cond.selects RX3 yX3_at yX3_at ∈ gw := gw_of (t_1 (List.mem_of_getElem? (i := 203) rfl)) rfl
theorem wCD_X3_at : Cond.code yX3_at cX3_at 2 (Option.some FieldType.int) ∈ gw := gw_of (t_1 (List.mem_of_getElem? (i := 204) rfl)) rfl
theorem wML_X3_19 : Cond.methodLink RX3 19 yX3_hasPlace ∈ gw := gw_of (t_1 (List.mem_of_getElem? (i := 205) rfl)) rfl
theorem wML_X6_83 : Cond.methodLink RX6 83 yX3_remove ∈ gw := gw_of (t_1 (List.mem_of_getElem? (i := 206) rfl)) rfl
theorem wIM_X3_remove : Cond.instanceMethod yX3_remove ∈ gw := gw_of (t_1 (List.mem_of_getElem? (i := 207) rfl)) rfl
theorem wSE_X3_remove : Cond.selects RX3 yX3_remove yX3_remove ∈ gw := gw_of (t_1 (List.mem_of_getElem? (i := 208) rfl)) rfl
theorem wCD_X3_remove : Cond.code yX3_remove cX3_remove 3 none ∈ gw := gw_of (t_1 (List.mem_of_getElem? (i := 209) rfl)) rfl
theorem wML_L_23 : Cond.methodLink RL 23 yX6_change ∈ gw := gw_of (t_1 (List.mem_of_getElem? (i := 210) rfl)) rfl
theorem wIM_X6_change : Cond.instanceMethod yX6_change ∈ gw := gw_of (t_1 (List.mem_of_getElem? (i := 211) rfl)) rfl
theorem wSE_X6_change : Cond.selects RX6 yX6_change yX6_change ∈ gw := gw_of (t_1 (List.mem_of_getElem? (i := 212) rfl)) rfl
theorem wCD_X6_change : Cond.code yX6_change cX6_change 4 (Option.some FieldType.int) ∈ gw := gw_of (t_1 (List.mem_of_getElem? (i := 213) rfl)) rfl
theorem wML_X6_87 : Cond.methodLink RX6 87 yX3_replace ∈ gw := gw_of (t_1 (List.mem_of_getElem? (i := 214) rfl)) rfl
theorem wIM_X3_replace : Cond.instanceMethod yX3_replace ∈ gw := gw_of (t_1 (List.mem_of_getElem? (i := 215) rfl)) rfl
theorem wSE_X3_replace : Cond.selects RX3 yX3_replace yX3_replace ∈ gw := gw_of (t_1 (List.mem_of_getElem? (i := 216) rfl)) rfl
theorem wCD_X3_replace : Cond.code yX3_replace cX3_replace 3 none ∈ gw := gw_of (t_1 (List.mem_of_getElem? (i := 217) rfl)) rfl
theorem wML_L_27 : Cond.methodLink RL 27 yX6_swap ∈ gw := gw_of (t_1 (List.mem_of_getElem? (i := 218) rfl)) rfl
theorem wIM_X6_swap : Cond.instanceMethod yX6_swap ∈ gw := gw_of (t_1 (List.mem_of_getElem? (i := 219) rfl)) rfl
theorem wSE_X6_swap : Cond.selects RX6 yX6_swap yX6_swap ∈ gw := gw_of (t_1 (List.mem_of_getElem? (i := 220) rfl)) rfl
theorem wCD_X6_swap : Cond.code yX6_swap cX6_swap 4 (Option.some FieldType.int) ∈ gw := gw_of (t_1 (List.mem_of_getElem? (i := 221) rfl)) rfl
theorem wML_X6_90 : Cond.methodLink RX6 90 yX3_exchange ∈ gw := gw_of (t_1 (List.mem_of_getElem? (i := 222) rfl)) rfl
theorem wIM_X3_exchange : Cond.instanceMethod yX3_exchange ∈ gw := gw_of (t_1 (List.mem_of_getElem? (i := 223) rfl)) rfl
theorem wSE_X3_exchange : Cond.selects RX3 yX3_exchange yX3_exchange ∈ gw := gw_of (t_1 (List.mem_of_getElem? (i := 224) rfl)) rfl
theorem wCD_X3_exchange : Cond.code yX3_exchange cX3_exchange 4 none ∈ gw := gw_of (t_1 (List.mem_of_getElem? (i := 225) rfl)) rfl
theorem wML_X3_27 : Cond.methodLink RX3 27 yX3_at ∈ gw := gw_of (t_1 (List.mem_of_getElem? (i := 226) rfl)) rfl
theorem wML_L_31 : Cond.methodLink RL 31 yX6_turn ∈ gw := gw_of (t_1 (List.mem_of_getElem? (i := 227) rfl)) rfl
theorem wIM_X6_turn : Cond.instanceMethod yX6_turn ∈ gw := gw_of (t_1 (List.mem_of_getElem? (i := 228) rfl)) rfl
theorem wSE_X6_turn : Cond.selects RX6 yX6_turn yX6_turn ∈ gw := gw_of (t_1 (List.mem_of_getElem? (i := 229) rfl)) rfl
theorem wCD_X6_turn : Cond.code yX6_turn cX6_turn 3 (Option.some FieldType.int) ∈ gw := gw_of (t_1 (List.mem_of_getElem? (i := 230) rfl)) rfl
theorem wML_X6_93 : Cond.methodLink RX6 93 yX3_hasSpan ∈ gw := gw_of (t_1 (List.mem_of_getElem? (i := 231) rfl)) rfl
theorem wIM_X3_hasSpan : Cond.instanceMethod yX3_hasSpan ∈ gw := gw_of (t_1 (List.mem_of_getElem? (i := 232) rfl)) rfl
theorem wSE_X3_hasSpan : Cond.selects RX3 yX3_hasSpan yX3_hasSpan ∈ gw := gw_of (t_1 (List.mem_of_getElem? (i := 233) rfl)) rfl
theorem wCD_X3_hasSpan : Cond.code yX3_hasSpan cX3_hasSpan 3 (Option.some FieldType.boolean) ∈ gw := gw_of (t_1 (List.mem_of_getElem? (i := 234) rfl)) rfl
theorem wML_X6_96 : Cond.methodLink RX6 96 yX3_reverse ∈ gw := gw_of (t_1 (List.mem_of_getElem? (i := 235) rfl)) rfl
theorem wIM_X3_reverse : Cond.instanceMethod yX3_reverse ∈ gw := gw_of (t_1 (List.mem_of_getElem? (i := 236) rfl)) rfl
theorem wSE_X3_reverse : Cond.selects RX3 yX3_reverse yX3_reverse ∈ gw := gw_of (t_1 (List.mem_of_getElem? (i := 237) rfl)) rfl
theorem wCD_X3_reverse : Cond.code yX3_reverse cX3_reverse 6 (Option.some FieldType.int) ∈ gw := gw_of (t_1 (List.mem_of_getElem? (i := 238) rfl)) rfl
theorem wML_X3_31 : Cond.methodLink RX3 31 yX3_exchange ∈ gw := gw_of (t_1 (List.mem_of_getElem? (i := 239) rfl)) rfl
theorem wML_L_35 : Cond.methodLink RL 35 yX6_sort ∈ gw := gw_of (t_2 (List.mem_of_getElem? (i := 0) rfl)) rfl
theorem wIM_X6_sort : Cond.instanceMethod yX6_sort ∈ gw := gw_of (t_2 (List.mem_of_getElem? (i := 1) rfl)) rfl
theorem wSE_X6_sort : Cond.selects RX6 yX6_sort yX6_sort ∈ gw := gw_of (t_2 (List.mem_of_getElem? (i := 2) rfl)) rfl
theorem wCD_X6_sort : Cond.code yX6_sort cX6_sort 3 (Option.some FieldType.int) ∈ gw := gw_of (t_2 (List.mem_of_getElem? (i := 3) rfl)) rfl
theorem wML_X6_100 : Cond.methodLink RX6 100 yX4_fill ∈ gw := gw_of (t_2 (List.mem_of_getElem? (i := 4) rfl)) rfl
theorem wIM_X4_fill : Cond.instanceMethod yX4_fill ∈ gw := gw_of (t_2 (List.mem_of_getElem? (i := 5) rfl)) rfl
theorem wSE_X4_fill : Cond.selects RX4 yX4_fill yX4_fill ∈ gw := gw_of (t_2 (List.mem_of_getElem? (i := 6) rfl)) rfl
theorem wCD_X4_fill : Cond.code yX4_fill cX4_fill 6 none ∈ gw := gw_of (t_2 (List.mem_of_getElem? (i := 7) rfl)) rfl
theorem wML_X4_15 : Cond.methodLink RX4 15 yX3_at ∈ gw := gw_of (t_2 (List.mem_of_getElem? (i := 8) rfl)) rfl
theorem wMN_X4_21 : Cond.methodLinkNest RX4 21 yX6_isSymbol "BitLevels" ∈ lw_tbl := List.mem_append_right _ (t_2 (List.mem_of_getElem? (i := 9) rfl))
theorem wML_X6_104 : Cond.methodLink RX6 104 yX3_layOut ∈ gw := gw_of (t_2 (List.mem_of_getElem? (i := 10) rfl)) rfl
theorem wIM_X3_layOut : Cond.instanceMethod yX3_layOut ∈ gw := gw_of (t_2 (List.mem_of_getElem? (i := 11) rfl)) rfl
theorem wSE_X3_layOut : Cond.selects RX3 yX3_layOut yX3_layOut ∈ gw := gw_of (t_2 (List.mem_of_getElem? (i := 12) rfl)) rfl
theorem wCD_X3_layOut : Cond.code yX3_layOut cX3_layOut 7 (Option.some FieldType.int) ∈ gw := gw_of (t_2 (List.mem_of_getElem? (i := 13) rfl)) rfl
theorem wML_X3_35 : Cond.methodLink RX3 35 yX4_symbolAtSorted ∈ gw := gw_of (t_2 (List.mem_of_getElem? (i := 14) rfl)) rfl
theorem wIM_X4_symbolAtSorted : Cond.instanceMethod yX4_symbolAtSorted ∈ gw := gw_of (t_2 (List.mem_of_getElem? (i := 15) rfl)) rfl
theorem wSE_X4_symbolAtSorted : Cond.selects RX4 yX4_symbolAtSorted yX4_symbolAtSorted ∈ gw := gw_of (t_2 (List.mem_of_getElem? (i := 16) rfl)) rfl
theorem wCD_X4_symbolAtSorted : Cond.code yX4_symbolAtSorted cX4_symbolAtSorted 4 (Option.some FieldType.int) ∈ gw := gw_of (t_2 (List.mem_of_getElem? (i := 17) rfl)) rfl
theorem wML_X3_40 : Cond.methodLink RX3 40 yX3_replace ∈ gw := gw_of (t_2 (List.mem_of_getElem? (i := 18) rfl)) rfl
theorem wML_L_39 : Cond.methodLink RL 39 yX6_levelOf ∈ gw := gw_of (t_2 (List.mem_of_getElem? (i := 19) rfl)) rfl
theorem wIM_X6_levelOf : Cond.instanceMethod yX6_levelOf ∈ gw := gw_of (t_2 (List.mem_of_getElem? (i := 20) rfl)) rfl
theorem wSE_X6_levelOf : Cond.selects RX6 yX6_levelOf yX6_levelOf ∈ gw := gw_of (t_2 (List.mem_of_getElem? (i := 21) rfl)) rfl
theorem wCD_X6_levelOf : Cond.code yX6_levelOf cX6_levelOf 4 (Option.some FieldType.int) ∈ gw := gw_of (t_2 (List.mem_of_getElem? (i := 22) rfl)) rfl
theorem wKI_X6_108 : Cond.constant RX6 108 (-1000004) ∈ gw := gw_of (t_2 (List.mem_of_getElem? (i := 23) rfl)) rfl
theorem wML_X6_109 : Cond.methodLink RX6 109 yX1_build ∈ gw := gw_of (t_2 (List.mem_of_getElem? (i := 24) rfl)) rfl
theorem wIM_X1_build : Cond.instanceMethod yX1_build ∈ gw := gw_of (t_2 (List.mem_of_getElem? (i := 25) rfl)) rfl
theorem wSE_X1_build : Cond.selects RX1 yX1_build yX1_build ∈ gw := gw_of (t_2 (List.mem_of_getElem? (i := 26) rfl)) rfl
theorem wCD_X1_build : Cond.code yX1_build cX1_build 4 none ∈ gw := gw_of (t_2 (List.mem_of_getElem? (i := 27) rfl)) rfl
theorem wML_X1_26 : Cond.methodLink RX1 26 yX3_size ∈ gw := gw_of (t_2 (List.mem_of_getElem? (i := 28) rfl)) rfl
theorem wML_X1_31 : Cond.methodLink RX1 31 yX3_at ∈ gw := gw_of (t_2 (List.mem_of_getElem? (i := 29) rfl)) rfl
theorem wML_X1_35 : Cond.methodLink RX1 35 yX1_moveBits ∈ gw := gw_of (t_2 (List.mem_of_getElem? (i := 30) rfl)) rfl
theorem wIM_X1_moveBits : Cond.instanceMethod yX1_moveBits ∈ gw := gw_of (t_2 (List.mem_of_getElem? (i := 32) rfl)) rfl
theorem wCD_X1_moveBits : Cond.code yX1_moveBits cX1_moveBits 6 (Option.some FieldType.int) ∈ gw := gw_of (t_2 (List.mem_of_getElem? (i := 33) rfl)) rfl
theorem wML_X1_39 : Cond.methodLink RX1 39 yX1_bitOf ∈ gw := gw_of (t_2 (List.mem_of_getElem? (i := 34) rfl)) rfl
theorem wIM_X1_bitOf : Cond.instanceMethod yX1_bitOf ∈ gw := gw_of (t_2 (List.mem_of_getElem? (i := 35) rfl)) rfl
theorem wSE_X1_bitOf : Cond.selects RX1 yX1_bitOf yX1_bitOf ∈ gw := gw_of (t_2 (List.mem_of_getElem? (i := 36) rfl)) rfl
theorem wCD_X1_bitOf : Cond.code yX1_bitOf cX1_bitOf 3 (Option.some FieldType.int) ∈ gw := gw_of (t_2 (List.mem_of_getElem? (i := 37) rfl)) rfl
theorem wMN_X1_50 : Cond.methodLinkNest RX1 50 yX6_hasBits "BitLevels" ∈ lw_tbl := List.mem_append_right _ (t_2 (List.mem_of_getElem? (i := 38) rfl))
theorem wST_X6_hasBits : Cond.static yX6_hasBits ∈ gw := gw_of (t_2 (List.mem_of_getElem? (i := 39) rfl)) rfl
theorem wCD_X6_hasBits : Cond.code yX6_hasBits cX6_hasBits 1 (Option.some FieldType.boolean) ∈ gw := gw_of (t_2 (List.mem_of_getElem? (i := 40) rfl)) rfl
theorem wML_X1_47 : Cond.methodLink RX1 47 yX1_isOn ∈ gw := gw_of (t_2 (List.mem_of_getElem? (i := 41) rfl)) rfl
theorem wIM_X1_isOn : Cond.instanceMethod yX1_isOn ∈ gw := gw_of (t_2 (List.mem_of_getElem? (i := 43) rfl)) rfl
theorem wCD_X1_isOn : Cond.code yX1_isOn cX1_isOn 3 (Option.some FieldType.boolean) ∈ gw := gw_of (t_2 (List.mem_of_getElem? (i := 44) rfl)) rfl
theorem wMN_X1_43 : Cond.methodLinkNest RX1 43 yX6_isAtMost "BitLevels" ∈ lw_tbl := List.mem_append_right _ (t_2 (List.mem_of_getElem? (i := 45) rfl))
theorem wML_X6_112 : Cond.methodLink RX6 112 yX1_symbolOf ∈ gw := gw_of (t_2 (List.mem_of_getElem? (i := 46) rfl)) rfl
theorem wIM_X1_symbolOf : Cond.instanceMethod yX1_symbolOf ∈ gw := gw_of (t_2 (List.mem_of_getElem? (i := 47) rfl)) rfl
theorem wSE_X1_symbolOf : Cond.selects RX1 yX1_symbolOf yX1_symbolOf ∈ gw := gw_of (t_2 (List.mem_of_getElem? (i := 48) rfl)) rfl
theorem wCD_X1_symbolOf : Cond.code yX1_symbolOf cX1_symbolOf 3 (Option.some FieldType.int) ∈ gw := gw_of (t_2 (List.mem_of_getElem? (i := 49) rfl)) rfl
theorem wML_X6_115 : Cond.methodLink RX6 115 yX1_bitOf ∈ gw := gw_of (t_2 (List.mem_of_getElem? (i := 50) rfl)) rfl
theorem wML_X6_118 : Cond.methodLink RX6 118 yX1_goalOf ∈ gw := gw_of (t_2 (List.mem_of_getElem? (i := 51) rfl)) rfl
theorem wIM_X1_goalOf : Cond.instanceMethod yX1_goalOf ∈ gw := gw_of (t_2 (List.mem_of_getElem? (i := 52) rfl)) rfl
theorem wSE_X1_goalOf : Cond.selects RX1 yX1_goalOf yX1_goalOf ∈ gw := gw_of (t_2 (List.mem_of_getElem? (i := 53) rfl)) rfl
theorem wCD_X1_goalOf : Cond.code yX1_goalOf cX1_goalOf 3 (Option.some FieldType.int) ∈ gw := gw_of (t_2 (List.mem_of_getElem? (i := 54) rfl)) rfl
theorem wML_X6_121 : Cond.methodLink RX6 121 yX1_originOf ∈ gw := gw_of (t_2 (List.mem_of_getElem? (i := 55) rfl)) rfl
theorem wIM_X1_originOf : Cond.instanceMethod yX1_originOf ∈ gw := gw_of (t_2 (List.mem_of_getElem? (i := 56) rfl)) rfl
theorem wSE_X1_originOf : Cond.selects RX1 yX1_originOf yX1_originOf ∈ gw := gw_of (t_2 (List.mem_of_getElem? (i := 57) rfl)) rfl
theorem wCD_X1_originOf : Cond.code yX1_originOf cX1_originOf 3 (Option.some FieldType.int) ∈ gw := gw_of (t_2 (List.mem_of_getElem? (i := 58) rfl)) rfl
theorem wML_L_44 : Cond.methodLink RL 44 yX6_blockOf ∈ gw := gw_of (t_2 (List.mem_of_getElem? (i := 59) rfl)) rfl
theorem wIM_X6_blockOf : Cond.instanceMethod yX6_blockOf ∈ gw := gw_of (t_2 (List.mem_of_getElem? (i := 60) rfl)) rfl
theorem wSE_X6_blockOf : Cond.selects RX6 yX6_blockOf yX6_blockOf ∈ gw := gw_of (t_2 (List.mem_of_getElem? (i := 61) rfl)) rfl
theorem wCD_X6_blockOf : Cond.code yX6_blockOf cX6_blockOf 6 (Option.some FieldType.int) ∈ gw := gw_of (t_2 (List.mem_of_getElem? (i := 62) rfl)) rfl
theorem wML_X6_124 : Cond.methodLink RX6 124 yX6_hasBits ∈ gw := gw_of (t_2 (List.mem_of_getElem? (i := 63) rfl)) rfl
theorem wML_X6_127 : Cond.methodLink RX6 127 yX6_blocks ∈ gw := gw_of (t_2 (List.mem_of_getElem? (i := 64) rfl)) rfl
theorem wIM_X6_blocks : Cond.instanceMethod yX6_blocks ∈ gw := gw_of (t_2 (List.mem_of_getElem? (i := 66) rfl)) rfl
theorem wCD_X6_blocks : Cond.code yX6_blocks cX6_blocks 1 (Option.some FieldType.int) ∈ gw := gw_of (t_2 (List.mem_of_getElem? (i := 67) rfl)) rfl
theorem wML_X6_130 : Cond.methodLink RX6 130 yJ9_min_7cf53 ∈ gw := gw_of (t_2 (List.mem_of_getElem? (i := 68) rfl)) rfl
theorem wST_J9_min_7cf53 : Cond.static yJ9_min_7cf53 ∈ gw := gw_of (t_2 (List.mem_of_getElem? (i := 69) rfl)) rfl
theorem wCD_J9_min_7cf53 : Cond.code yJ9_min_7cf53 cJ9_min_7cf53 2 (Option.some FieldType.int) ∈ gw := gw_of (t_2 (List.mem_of_getElem? (i := 70) rfl)) rfl
theorem wML_X6_135 : Cond.methodLink RX6 135 yX1_packed ∈ gw := gw_of (t_2 (List.mem_of_getElem? (i := 71) rfl)) rfl
theorem wIM_X1_packed : Cond.instanceMethod yX1_packed ∈ gw := gw_of (t_2 (List.mem_of_getElem? (i := 72) rfl)) rfl
theorem wSE_X1_packed : Cond.selects RX1 yX1_packed yX1_packed ∈ gw := gw_of (t_2 (List.mem_of_getElem? (i := 73) rfl)) rfl
theorem wCD_X1_packed : Cond.code yX1_packed cX1_packed 7 (Option.some FieldType.long) ∈ gw := gw_of (t_2 (List.mem_of_getElem? (i := 74) rfl)) rfl
theorem wML_X6_139 : Cond.methodLink RX6 139 yX1_ones ∈ gw := gw_of (t_2 (List.mem_of_getElem? (i := 75) rfl)) rfl
theorem wIM_X1_ones : Cond.instanceMethod yX1_ones ∈ gw := gw_of (t_2 (List.mem_of_getElem? (i := 76) rfl)) rfl
theorem wSE_X1_ones : Cond.selects RX1 yX1_ones yX1_ones ∈ gw := gw_of (t_2 (List.mem_of_getElem? (i := 77) rfl)) rfl
theorem wCD_X1_ones : Cond.code yX1_ones cX1_ones 4 (Option.some FieldType.int) ∈ gw := gw_of (t_2 (List.mem_of_getElem? (i := 78) rfl)) rfl
theorem wML_X1_54 : Cond.methodLink RX1 54 yX1_packed ∈ gw := gw_of (t_2 (List.mem_of_getElem? (i := 79) rfl)) rfl
theorem wML_X1_58 : Cond.methodLink RX1 58 yJ13_bitCount_95d88 ∈ gw := gw_of (t_2 (List.mem_of_getElem? (i := 80) rfl)) rfl
theorem wST_J13_bitCount_95d88 : Cond.static yJ13_bitCount_95d88 ∈ gw := gw_of (t_2 (List.mem_of_getElem? (i := 81) rfl)) rfl
theorem wCD_J13_bitCount_95d88 : Cond.code yJ13_bitCount_95d88 cJ13_bitCount_95d88 2 (Option.some FieldType.int) ∈ gw := gw_of (t_2 (List.mem_of_getElem? (i := 82) rfl)) rfl
theorem wKL_J13_314 : Cond.constantLong RJ13 314 (6148914691236517205) ∈ gw := gw_of (t_2 (List.mem_of_getElem? (i := 83) rfl)) rfl
theorem wKL_J13_316 : Cond.constantLong RJ13 316 (3689348814741910323) ∈ gw := gw_of (t_2 (List.mem_of_getElem? (i := 84) rfl)) rfl
theorem wKL_J13_318 : Cond.constantLong RJ13 318 (1085102592571150095) ∈ gw := gw_of (t_2 (List.mem_of_getElem? (i := 85) rfl)) rfl
theorem wML_L_48 : Cond.methodLink RL 48 yX6_bits ∈ gw := gw_of (t_2 (List.mem_of_getElem? (i := 86) rfl)) rfl
theorem wIM_X6_bits : Cond.instanceMethod yX6_bits ∈ gw := gw_of (t_2 (List.mem_of_getElem? (i := 87) rfl)) rfl
theorem wSE_X6_bits : Cond.selects RX6 yX6_bits yX6_bits ∈ gw := gw_of (t_2 (List.mem_of_getElem? (i := 88) rfl)) rfl
theorem wCD_X6_bits : Cond.code yX6_bits cX6_bits 2 (Option.some FieldType.long) ∈ gw := gw_of (t_2 (List.mem_of_getElem? (i := 89) rfl)) rfl
theorem wKL_X6_143 : Cond.constantLong RX6 143 (-1000001) ∈ gw := gw_of (t_2 (List.mem_of_getElem? (i := 90) rfl)) rfl
theorem wML_L_53 : Cond.methodLink RL 53 yX6_symbolAt ∈ gw := gw_of (t_2 (List.mem_of_getElem? (i := 91) rfl)) rfl
theorem wIM_X6_symbolAt : Cond.instanceMethod yX6_symbolAt ∈ gw := gw_of (t_2 (List.mem_of_getElem? (i := 92) rfl)) rfl
theorem wSE_X6_symbolAt : Cond.selects RX6 yX6_symbolAt yX6_symbolAt ∈ gw := gw_of (t_2 (List.mem_of_getElem? (i := 93) rfl)) rfl
theorem wCD_X6_symbolAt : Cond.code yX6_symbolAt cX6_symbolAt 2 (Option.some FieldType.int) ∈ gw := gw_of (t_2 (List.mem_of_getElem? (i := 94) rfl)) rfl
theorem wML_L_57 : Cond.methodLink RL 57 yX6_rank ∈ gw := gw_of (t_2 (List.mem_of_getElem? (i := 95) rfl)) rfl
theorem wIM_X6_rank : Cond.instanceMethod yX6_rank ∈ gw := gw_of (t_2 (List.mem_of_getElem? (i := 96) rfl)) rfl
theorem wSE_X6_rank : Cond.selects RX6 yX6_rank yX6_rank ∈ gw := gw_of (t_2 (List.mem_of_getElem? (i := 97) rfl)) rfl
theorem wCD_X6_rank : Cond.code yX6_rank cX6_rank 3 (Option.some FieldType.int) ∈ gw := gw_of (t_2 (List.mem_of_getElem? (i := 98) rfl)) rfl
theorem wML_X6_145 : Cond.methodLink RX6 145 yX4_times ∈ gw := gw_of (t_2 (List.mem_of_getElem? (i := 99) rfl)) rfl
theorem wIM_X4_times : Cond.instanceMethod yX4_times ∈ gw := gw_of (t_2 (List.mem_of_getElem? (i := 100) rfl)) rfl
theorem wSE_X4_times : Cond.selects RX4 yX4_times yX4_times ∈ gw := gw_of (t_2 (List.mem_of_getElem? (i := 101) rfl)) rfl
theorem wCD_X4_times : Cond.code yX4_times cX4_times 2 (Option.some FieldType.int) ∈ gw := gw_of (t_2 (List.mem_of_getElem? (i := 102) rfl)) rfl
theorem wML_L_61 : Cond.methodLink RL 61 yX6_select ∈ gw := gw_of (t_2 (List.mem_of_getElem? (i := 103) rfl)) rfl
theorem wIM_X6_select : Cond.instanceMethod yX6_select ∈ gw := gw_of (t_2 (List.mem_of_getElem? (i := 104) rfl)) rfl
theorem wSE_X6_select : Cond.selects RX6 yX6_select yX6_select ∈ gw := gw_of (t_2 (List.mem_of_getElem? (i := 105) rfl)) rfl
theorem wCD_X6_select : Cond.code yX6_select cX6_select 5 (Option.some FieldType.int) ∈ gw := gw_of (t_2 (List.mem_of_getElem? (i := 106) rfl)) rfl
theorem wML_L_65 : Cond.methodLink RL 65 yX6_smallest ∈ gw := gw_of (t_2 (List.mem_of_getElem? (i := 107) rfl)) rfl
theorem wIM_X6_smallest : Cond.instanceMethod yX6_smallest ∈ gw := gw_of (t_2 (List.mem_of_getElem? (i := 108) rfl)) rfl
theorem wSE_X6_smallest : Cond.selects RX6 yX6_smallest yX6_smallest ∈ gw := gw_of (t_2 (List.mem_of_getElem? (i := 109) rfl)) rfl
theorem wCD_X6_smallest : Cond.code yX6_smallest cX6_smallest 4 (Option.some FieldType.int) ∈ gw := gw_of (t_2 (List.mem_of_getElem? (i := 110) rfl)) rfl
theorem wML_X6_148 : Cond.methodLink RX6 148 yX4_symbolAtSorted ∈ gw := gw_of (t_2 (List.mem_of_getElem? (i := 111) rfl)) rfl
theorem wML_X6_151 : Cond.methodLink RX6 151 yX6_symbolOrNotFound ∈ gw := gw_of (t_2 (List.mem_of_getElem? (i := 112) rfl)) rfl
theorem wST_X6_symbolOrNotFound : Cond.static yX6_symbolOrNotFound ∈ gw := gw_of (t_2 (List.mem_of_getElem? (i := 113) rfl)) rfl
theorem wCD_X6_symbolOrNotFound : Cond.code yX6_symbolOrNotFound cX6_symbolOrNotFound 1 (Option.some FieldType.int) ∈ gw := gw_of (t_2 (List.mem_of_getElem? (i := 114) rfl)) rfl
theorem wML_L_69 : Cond.methodLink RL 69 yX6_below ∈ gw := gw_of (t_2 (List.mem_of_getElem? (i := 115) rfl)) rfl
theorem wIM_X6_below : Cond.instanceMethod yX6_below ∈ gw := gw_of (t_2 (List.mem_of_getElem? (i := 116) rfl)) rfl
theorem wSE_X6_below : Cond.selects RX6 yX6_below yX6_below ∈ gw := gw_of (t_2 (List.mem_of_getElem? (i := 117) rfl)) rfl
theorem wCD_X6_below : Cond.code yX6_below cX6_below 4 (Option.some FieldType.int) ∈ gw := gw_of (t_2 (List.mem_of_getElem? (i := 118) rfl)) rfl
theorem wML_X6_154 : Cond.methodLink RX6 154 yX4_timesBelow ∈ gw := gw_of (t_2 (List.mem_of_getElem? (i := 119) rfl)) rfl
theorem wIM_X4_timesBelow : Cond.instanceMethod yX4_timesBelow ∈ gw := gw_of (t_2 (List.mem_of_getElem? (i := 120) rfl)) rfl
theorem wSE_X4_timesBelow : Cond.selects RX4 yX4_timesBelow yX4_timesBelow ∈ gw := gw_of (t_2 (List.mem_of_getElem? (i := 121) rfl)) rfl
theorem wCD_X4_timesBelow : Cond.code yX4_timesBelow cX4_timesBelow 4 (Option.some FieldType.int) ∈ gw := gw_of (t_2 (List.mem_of_getElem? (i := 122) rfl)) rfl
theorem wML_L_73 : Cond.methodLink RL 73 yX6_notBelow ∈ gw := gw_of (t_2 (List.mem_of_getElem? (i := 123) rfl)) rfl
theorem wIM_X6_notBelow : Cond.instanceMethod yX6_notBelow ∈ gw := gw_of (t_2 (List.mem_of_getElem? (i := 124) rfl)) rfl
theorem wSE_X6_notBelow : Cond.selects RX6 yX6_notBelow yX6_notBelow ∈ gw := gw_of (t_2 (List.mem_of_getElem? (i := 125) rfl)) rfl
theorem wCD_X6_notBelow : Cond.code yX6_notBelow cX6_notBelow 4 (Option.some FieldType.int) ∈ gw := gw_of (t_2 (List.mem_of_getElem? (i := 126) rfl)) rfl
theorem wML_X6_157 : Cond.methodLink RX6 157 yX4_leastFrom ∈ gw := gw_of (t_2 (List.mem_of_getElem? (i := 127) rfl)) rfl
theorem wIM_X4_leastFrom : Cond.instanceMethod yX4_leastFrom ∈ gw := gw_of (t_2 (List.mem_of_getElem? (i := 128) rfl)) rfl
theorem wSE_X4_leastFrom : Cond.selects RX4 yX4_leastFrom yX4_leastFrom ∈ gw := gw_of (t_2 (List.mem_of_getElem? (i := 129) rfl)) rfl
theorem wCD_X4_leastFrom : Cond.code yX4_leastFrom cX4_leastFrom 3 (Option.some FieldType.int) ∈ gw := gw_of (t_2 (List.mem_of_getElem? (i := 130) rfl)) rfl
theorem wML_X4_25 : Cond.methodLink RX4 25 yJ9_max_7cf53 ∈ gw := gw_of (t_2 (List.mem_of_getElem? (i := 131) rfl)) rfl
theorem wST_J9_max_7cf53 : Cond.static yJ9_max_7cf53 ∈ gw := gw_of (t_2 (List.mem_of_getElem? (i := 132) rfl)) rfl
theorem wCD_J9_max_7cf53 : Cond.code yJ9_max_7cf53 cJ9_max_7cf53 2 (Option.some FieldType.int) ∈ gw := gw_of (t_2 (List.mem_of_getElem? (i := 133) rfl)) rfl
theorem wML_L_77 : Cond.methodLink RL 77 yX6_spanOf ∈ gw := gw_of (t_2 (List.mem_of_getElem? (i := 134) rfl)) rfl
theorem wIM_X6_spanOf : Cond.instanceMethod yX6_spanOf ∈ gw := gw_of (t_2 (List.mem_of_getElem? (i := 135) rfl)) rfl
theorem wSE_X6_spanOf : Cond.selects RX6 yX6_spanOf yX6_spanOf ∈ gw := gw_of (t_2 (List.mem_of_getElem? (i := 136) rfl)) rfl
theorem wCD_X6_spanOf : Cond.code yX6_spanOf cX6_spanOf 5 (Option.some FieldType.int) ∈ gw := gw_of (t_2 (List.mem_of_getElem? (i := 137) rfl)) rfl
theorem wML_X6_160 : Cond.methodLink RX6 160 yX3_sum ∈ gw := gw_of (t_2 (List.mem_of_getElem? (i := 138) rfl)) rfl
theorem wIM_X3_sum : Cond.instanceMethod yX3_sum ∈ gw := gw_of (t_2 (List.mem_of_getElem? (i := 139) rfl)) rfl
theorem wSE_X3_sum : Cond.selects RX3 yX3_sum yX3_sum ∈ gw := gw_of (t_2 (List.mem_of_getElem? (i := 140) rfl)) rfl
theorem wCD_X3_sum : Cond.code yX3_sum cX3_sum 5 (Option.some FieldType.int) ∈ gw := gw_of (t_2 (List.mem_of_getElem? (i := 141) rfl)) rfl
theorem wML_X6_163 : Cond.methodLink RX6 163 yX3_wrongPairs ∈ gw := gw_of (t_2 (List.mem_of_getElem? (i := 142) rfl)) rfl
theorem wIM_X3_wrongPairs : Cond.instanceMethod yX3_wrongPairs ∈ gw := gw_of (t_2 (List.mem_of_getElem? (i := 143) rfl)) rfl
theorem wSE_X3_wrongPairs : Cond.selects RX3 yX3_wrongPairs yX3_wrongPairs ∈ gw := gw_of (t_2 (List.mem_of_getElem? (i := 144) rfl)) rfl
theorem wCD_X3_wrongPairs : Cond.code yX3_wrongPairs cX3_wrongPairs 6 (Option.some FieldType.int) ∈ gw := gw_of (t_2 (List.mem_of_getElem? (i := 145) rfl)) rfl
theorem wML_X6_166 : Cond.methodLink RX6 166 yX4_unlike ∈ gw := gw_of (t_2 (List.mem_of_getElem? (i := 146) rfl)) rfl
theorem wIM_X4_unlike : Cond.instanceMethod yX4_unlike ∈ gw := gw_of (t_2 (List.mem_of_getElem? (i := 147) rfl)) rfl
theorem wSE_X4_unlike : Cond.selects RX4 yX4_unlike yX4_unlike ∈ gw := gw_of (t_2 (List.mem_of_getElem? (i := 148) rfl)) rfl
theorem wCD_X4_unlike : Cond.code yX4_unlike cX4_unlike 3 (Option.some FieldType.int) ∈ gw := gw_of (t_2 (List.mem_of_getElem? (i := 149) rfl)) rfl
theorem wML_X6_169 : Cond.methodLink RX6 169 yX4_mostFrequent ∈ gw := gw_of (t_2 (List.mem_of_getElem? (i := 150) rfl)) rfl
theorem wIM_X4_mostFrequent : Cond.instanceMethod yX4_mostFrequent ∈ gw := gw_of (t_2 (List.mem_of_getElem? (i := 151) rfl)) rfl
theorem wSE_X4_mostFrequent : Cond.selects RX4 yX4_mostFrequent yX4_mostFrequent ∈ gw := gw_of (t_2 (List.mem_of_getElem? (i := 152) rfl)) rfl
theorem wCD_X4_mostFrequent : Cond.code yX4_mostFrequent cX4_mostFrequent 3 (Option.some FieldType.int) ∈ gw := gw_of (t_2 (List.mem_of_getElem? (i := 153) rfl)) rfl
theorem wML_X4_31 : Cond.methodLink RX4 31 yX4_times ∈ gw := gw_of (t_2 (List.mem_of_getElem? (i := 154) rfl)) rfl
theorem wML_L_81 : Cond.methodLink RL 81 yX6_product ∈ gw := gw_of (t_2 (List.mem_of_getElem? (i := 155) rfl)) rfl
theorem wIM_X6_product : Cond.instanceMethod yX6_product ∈ gw := gw_of (t_2 (List.mem_of_getElem? (i := 156) rfl)) rfl
theorem wSE_X6_product : Cond.selects RX6 yX6_product yX6_product ∈ gw := gw_of (t_2 (List.mem_of_getElem? (i := 157) rfl)) rfl
theorem wCD_X6_product : Cond.code yX6_product cX6_product 7 (Option.some FieldType.long) ∈ gw := gw_of (t_2 (List.mem_of_getElem? (i := 158) rfl)) rfl
theorem wKL_X6_172 : Cond.constantLong RX6 172 (9223372036854775807) ∈ gw := gw_of (t_2 (List.mem_of_getElem? (i := 159) rfl)) rfl
theorem wKL_X6_174 : Cond.constantLong RX6 174 (-1000003) ∈ gw := gw_of (t_2 (List.mem_of_getElem? (i := 160) rfl)) rfl
theorem wML_L_86 : Cond.methodLink RL 86 yX6_common ∈ gw := gw_of (t_2 (List.mem_of_getElem? (i := 161) rfl)) rfl
theorem wIM_X6_common : Cond.instanceMethod yX6_common ∈ gw := gw_of (t_2 (List.mem_of_getElem? (i := 162) rfl)) rfl
theorem wSE_X6_common : Cond.selects RX6 yX6_common yX6_common ∈ gw := gw_of (t_2 (List.mem_of_getElem? (i := 163) rfl)) rfl
theorem wCD_X6_common : Cond.code yX6_common cX6_common 6 (Option.some FieldType.int) ∈ gw := gw_of (t_2 (List.mem_of_getElem? (i := 164) rfl)) rfl
theorem wML_X6_176 : Cond.methodLink RX6 176 yX4_isLike ∈ gw := gw_of (t_2 (List.mem_of_getElem? (i := 165) rfl)) rfl
theorem wIM_X4_isLike : Cond.instanceMethod yX4_isLike ∈ gw := gw_of (t_2 (List.mem_of_getElem? (i := 166) rfl)) rfl
theorem wSE_X4_isLike : Cond.selects RX4 yX4_isLike yX4_isLike ∈ gw := gw_of (t_2 (List.mem_of_getElem? (i := 167) rfl)) rfl
theorem wCD_X4_isLike : Cond.code yX4_isLike cX4_isLike 3 (Option.some FieldType.boolean) ∈ gw := gw_of (t_2 (List.mem_of_getElem? (i := 168) rfl)) rfl
theorem wML_X6_180 : Cond.methodLink RX6 180 yX4_keepCommon ∈ gw := gw_of (t_2 (List.mem_of_getElem? (i := 169) rfl)) rfl
theorem wIM_X4_keepCommon : Cond.instanceMethod yX4_keepCommon ∈ gw := gw_of (t_2 (List.mem_of_getElem? (i := 170) rfl)) rfl
theorem wSE_X4_keepCommon : Cond.selects RX4 yX4_keepCommon yX4_keepCommon ∈ gw := gw_of (t_2 (List.mem_of_getElem? (i := 171) rfl)) rfl
theorem wCD_X4_keepCommon : Cond.code yX4_keepCommon cX4_keepCommon 3 none ∈ gw := gw_of (t_2 (List.mem_of_getElem? (i := 172) rfl)) rfl
theorem wML_X4_33 : Cond.methodLink RX4 33 yJ9_min_7cf53 ∈ gw := gw_of (t_2 (List.mem_of_getElem? (i := 173) rfl)) rfl
theorem wML_L_91 : Cond.methodLink RL 91 yX6_heaviest ∈ gw := gw_of (t_2 (List.mem_of_getElem? (i := 174) rfl)) rfl
theorem wIM_X6_heaviest : Cond.instanceMethod yX6_heaviest ∈ gw := gw_of (t_2 (List.mem_of_getElem? (i := 175) rfl)) rfl
theorem wSE_X6_heaviest : Cond.selects RX6 yX6_heaviest yX6_heaviest ∈ gw := gw_of (t_2 (List.mem_of_getElem? (i := 176) rfl)) rfl
theorem wCD_X6_heaviest : Cond.code yX6_heaviest cX6_heaviest 7 (Option.some FieldType.int) ∈ gw := gw_of (t_2 (List.mem_of_getElem? (i := 177) rfl)) rfl
theorem wML_L_95 : Cond.methodLink RL 95 yX6_count ∈ gw := gw_of (t_2 (List.mem_of_getElem? (i := 178) rfl)) rfl
theorem wIM_X6_count : Cond.instanceMethod yX6_count ∈ gw := gw_of (t_2 (List.mem_of_getElem? (i := 179) rfl)) rfl
theorem wSE_X6_count : Cond.selects RX6 yX6_count yX6_count ∈ gw := gw_of (t_2 (List.mem_of_getElem? (i := 180) rfl)) rfl
theorem wCD_X6_count : Cond.code yX6_count cX6_count 2 (Option.some FieldType.int) ∈ gw := gw_of (t_2 (List.mem_of_getElem? (i := 181) rfl)) rfl
theorem wML_X6_184 : Cond.methodLink RX6 184 yX3_ones ∈ gw := gw_of (t_2 (List.mem_of_getElem? (i := 182) rfl)) rfl
theorem wIM_X3_ones : Cond.instanceMethod yX3_ones ∈ gw := gw_of (t_2 (List.mem_of_getElem? (i := 183) rfl)) rfl
theorem wSE_X3_ones : Cond.selects RX3 yX3_ones yX3_ones ∈ gw := gw_of (t_2 (List.mem_of_getElem? (i := 184) rfl)) rfl
theorem wCD_X3_ones : Cond.code yX3_ones cX3_ones 3 (Option.some FieldType.int) ∈ gw := gw_of (t_2 (List.mem_of_getElem? (i := 185) rfl)) rfl
theorem wML_X3_43 : Cond.methodLink RX3 43 yJ6_bitCount_0f7a4 ∈ gw := gw_of (t_2 (List.mem_of_getElem? (i := 186) rfl)) rfl
theorem wST_J6_bitCount_0f7a4 : Cond.static yJ6_bitCount_0f7a4 ∈ gw := gw_of (t_2 (List.mem_of_getElem? (i := 187) rfl)) rfl
theorem wCD_J6_bitCount_0f7a4 : Cond.code yJ6_bitCount_0f7a4 cJ6_bitCount_0f7a4 1 (Option.some FieldType.int) ∈ gw := gw_of (t_2 (List.mem_of_getElem? (i := 188) rfl)) rfl
theorem wKI_J6_265 : Cond.constant RJ6 265 (1431655765) ∈ gw := gw_of (t_2 (List.mem_of_getElem? (i := 189) rfl)) rfl
theorem wKI_J6_266 : Cond.constant RJ6 266 (858993459) ∈ gw := gw_of (t_2 (List.mem_of_getElem? (i := 190) rfl)) rfl
theorem wKI_J6_267 : Cond.constant RJ6 267 (252645135) ∈ gw := gw_of (t_2 (List.mem_of_getElem? (i := 191) rfl)) rfl
theorem wML_X6_186 : Cond.methodLink RX6 186 yX0_size ∈ gw := gw_of (t_2 (List.mem_of_getElem? (i := 192) rfl)) rfl
theorem wIM_X0_size : Cond.instanceMethod yX0_size ∈ gw := gw_of (t_2 (List.mem_of_getElem? (i := 193) rfl)) rfl
theorem wSE_X0_size : Cond.selects RX0 yX0_size yX0_size ∈ gw := gw_of (t_2 (List.mem_of_getElem? (i := 194) rfl)) rfl
theorem wCD_X0_size : Cond.code yX0_size cX0_size 1 (Option.some FieldType.int) ∈ gw := gw_of (t_2 (List.mem_of_getElem? (i := 195) rfl)) rfl
theorem wML_X6_187 : Cond.methodLink RX6 187 yX5_length ∈ gw := gw_of (t_2 (List.mem_of_getElem? (i := 196) rfl)) rfl
theorem wIM_X5_length : Cond.instanceMethod yX5_length ∈ gw := gw_of (t_2 (List.mem_of_getElem? (i := 197) rfl)) rfl
theorem wSE_X5_length : Cond.selects RX5 yX5_length yX5_length ∈ gw := gw_of (t_2 (List.mem_of_getElem? (i := 198) rfl)) rfl
theorem wCD_X5_length : Cond.code yX5_length cX5_length 1 (Option.some FieldType.int) ∈ gw := gw_of (t_2 (List.mem_of_getElem? (i := 199) rfl)) rfl
theorem wML_L_99 : Cond.methodLink RL 99 yX6_undo ∈ gw := gw_of (t_2 (List.mem_of_getElem? (i := 200) rfl)) rfl
theorem wIM_X6_undo : Cond.instanceMethod yX6_undo ∈ gw := gw_of (t_2 (List.mem_of_getElem? (i := 201) rfl)) rfl
theorem wSE_X6_undo : Cond.selects RX6 yX6_undo yX6_undo ∈ gw := gw_of (t_2 (List.mem_of_getElem? (i := 202) rfl)) rfl
theorem wCD_X6_undo : Cond.code yX6_undo cX6_undo 1 (Option.some FieldType.int) ∈ gw := gw_of (t_2 (List.mem_of_getElem? (i := 203) rfl)) rfl
theorem wKI_X6_192 : Cond.constant RX6 192 (-1000002) ∈ gw := gw_of (t_2 (List.mem_of_getElem? (i := 204) rfl)) rfl
theorem wML_X6_193 : Cond.methodLink RX6 193 yX0_restore ∈ gw := gw_of (t_2 (List.mem_of_getElem? (i := 205) rfl)) rfl
theorem wIM_X0_restore : Cond.instanceMethod yX0_restore ∈ gw := gw_of (t_2 (List.mem_of_getElem? (i := 206) rfl)) rfl
theorem wSE_X0_restore : Cond.selects RX0 yX0_restore yX0_restore ∈ gw := gw_of (t_2 (List.mem_of_getElem? (i := 207) rfl)) rfl
theorem wCD_X0_restore : Cond.code yX0_restore cX0_restore 2 none ∈ gw := gw_of (t_2 (List.mem_of_getElem? (i := 208) rfl)) rfl
theorem wML_L_104 : Cond.methodLink RL 104 yX6_type ∈ gw := gw_of (t_2 (List.mem_of_getElem? (i := 209) rfl)) rfl
theorem wIM_X6_type : Cond.instanceMethod yX6_type ∈ gw := gw_of (t_2 (List.mem_of_getElem? (i := 210) rfl)) rfl
theorem wSE_X6_type : Cond.selects RX6 yX6_type yX6_type ∈ gw := gw_of (t_2 (List.mem_of_getElem? (i := 211) rfl)) rfl
theorem wCD_X6_type : Cond.code yX6_type cX6_type 2 (Option.some FieldType.int) ∈ gw := gw_of (t_2 (List.mem_of_getElem? (i := 212) rfl)) rfl
theorem wML_X6_196 : Cond.methodLink RX6 196 yX5_append ∈ gw := gw_of (t_2 (List.mem_of_getElem? (i := 213) rfl)) rfl
theorem wIM_X5_append : Cond.instanceMethod yX5_append ∈ gw := gw_of (t_2 (List.mem_of_getElem? (i := 214) rfl)) rfl
theorem wSE_X5_append : Cond.selects RX5 yX5_append yX5_append ∈ gw := gw_of (t_2 (List.mem_of_getElem? (i := 215) rfl)) rfl
theorem wCD_X5_append : Cond.code yX5_append cX5_append 2 none ∈ gw := gw_of (t_2 (List.mem_of_getElem? (i := 216) rfl)) rfl
theorem wML_L_108 : Cond.methodLink RL 108 yX6_clearText ∈ gw := gw_of (t_2 (List.mem_of_getElem? (i := 217) rfl)) rfl
theorem wIM_X6_clearText : Cond.instanceMethod yX6_clearText ∈ gw := gw_of (t_2 (List.mem_of_getElem? (i := 218) rfl)) rfl
theorem wSE_X6_clearText : Cond.selects RX6 yX6_clearText yX6_clearText ∈ gw := gw_of (t_2 (List.mem_of_getElem? (i := 219) rfl)) rfl
theorem wCD_X6_clearText : Cond.code yX6_clearText cX6_clearText 2 (Option.some FieldType.int) ∈ gw := gw_of (t_2 (List.mem_of_getElem? (i := 220) rfl)) rfl
theorem wML_X6_200 : Cond.methodLink RX6 200 yX5_empty ∈ gw := gw_of (t_2 (List.mem_of_getElem? (i := 221) rfl)) rfl
theorem wIM_X5_empty : Cond.instanceMethod yX5_empty ∈ gw := gw_of (t_2 (List.mem_of_getElem? (i := 222) rfl)) rfl
theorem wSE_X5_empty : Cond.selects RX5 yX5_empty yX5_empty ∈ gw := gw_of (t_2 (List.mem_of_getElem? (i := 223) rfl)) rfl
theorem wCD_X5_empty : Cond.code yX5_empty cX5_empty 1 none ∈ gw := gw_of (t_2 (List.mem_of_getElem? (i := 224) rfl)) rfl
theorem wML_L_112 : Cond.methodLink RL 112 yX6_fault ∈ gw := gw_of (t_2 (List.mem_of_getElem? (i := 225) rfl)) rfl
theorem wIM_X6_fault : Cond.instanceMethod yX6_fault ∈ gw := gw_of (t_2 (List.mem_of_getElem? (i := 226) rfl)) rfl
theorem wSE_X6_fault : Cond.selects RX6 yX6_fault yX6_fault ∈ gw := gw_of (t_2 (List.mem_of_getElem? (i := 227) rfl)) rfl
theorem wCD_X6_fault : Cond.code yX6_fault cX6_fault 2 (Option.some FieldType.int) ∈ gw := gw_of (t_2 (List.mem_of_getElem? (i := 228) rfl)) rfl
theorem wML_X6_203 : Cond.methodLink RX6 203 yX2_playAll ∈ gw := gw_of (t_2 (List.mem_of_getElem? (i := 229) rfl)) rfl
theorem wIM_X2_playAll : Cond.instanceMethod yX2_playAll ∈ gw := gw_of (t_2 (List.mem_of_getElem? (i := 230) rfl)) rfl
theorem wSE_X2_playAll : Cond.selects RX2 yX2_playAll yX2_playAll ∈ gw := gw_of (t_2 (List.mem_of_getElem? (i := 231) rfl)) rfl
theorem wCD_X2_playAll : Cond.code yX2_playAll cX2_playAll 3 none ∈ gw := gw_of (t_2 (List.mem_of_getElem? (i := 232) rfl)) rfl
theorem wML_X2_35 : Cond.methodLink RX2 35 yX3_copyFrom ∈ gw := gw_of (t_2 (List.mem_of_getElem? (i := 233) rfl)) rfl
theorem wML_X2_42 : Cond.methodLink RX2 42 yX5_length ∈ gw := gw_of (t_2 (List.mem_of_getElem? (i := 234) rfl)) rfl
theorem wML_X2_46 : Cond.methodLink RX2 46 yX2_playEdit ∈ gw := gw_of (t_2 (List.mem_of_getElem? (i := 235) rfl)) rfl
theorem wIM_X2_playEdit : Cond.instanceMethod yX2_playEdit ∈ gw := gw_of (t_2 (List.mem_of_getElem? (i := 237) rfl)) rfl
theorem wCD_X2_playEdit : Cond.code yX2_playEdit cX2_playEdit 1 none ∈ gw := gw_of (t_2 (List.mem_of_getElem? (i := 238) rfl)) rfl
theorem wML_X2_49 : Cond.methodLink RX2 49 yX2_readEdit ∈ gw := gw_of (t_2 (List.mem_of_getElem? (i := 239) rfl)) rfl
theorem wIM_X2_readEdit : Cond.instanceMethod yX2_readEdit ∈ gw := gw_of (t_3 (List.mem_of_getElem? (i := 1) rfl)) rfl
theorem wCD_X2_readEdit : Cond.code yX2_readEdit cX2_readEdit 1 (Option.some FieldType.boolean) ∈ gw := gw_of (t_3 (List.mem_of_getElem? (i := 2) rfl)) rfl
theorem wML_X2_59 : Cond.methodLink RX2 59 yX5_at ∈ gw := gw_of (t_3 (List.mem_of_getElem? (i := 3) rfl)) rfl
theorem wIM_X5_at : Cond.instanceMethod yX5_at ∈ gw := gw_of (t_3 (List.mem_of_getElem? (i := 4) rfl)) rfl
theorem wSE_X5_at : Cond.selects RX5 yX5_at yX5_at ∈ gw := gw_of (t_3 (List.mem_of_getElem? (i := 5) rfl)) rfl
theorem wCD_X5_at : Cond.code yX5_at cX5_at 2 (Option.some FieldType.int) ∈ gw := gw_of (t_3 (List.mem_of_getElem? (i := 6) rfl)) rfl
theorem wML_X2_66 : Cond.methodLink RX2 66 yX2_readNumber ∈ gw := gw_of (t_3 (List.mem_of_getElem? (i := 7) rfl)) rfl
theorem wIM_X2_readNumber : Cond.instanceMethod yX2_readNumber ∈ gw := gw_of (t_3 (List.mem_of_getElem? (i := 9) rfl)) rfl
theorem wCD_X2_readNumber : Cond.code yX2_readNumber cX2_readNumber 3 (Option.some FieldType.int) ∈ gw := gw_of (t_3 (List.mem_of_getElem? (i := 10) rfl)) rfl
theorem wML_X2_82 : Cond.methodLink RX2 82 yX5_digitAt ∈ gw := gw_of (t_3 (List.mem_of_getElem? (i := 11) rfl)) rfl
theorem wIM_X5_digitAt : Cond.instanceMethod yX5_digitAt ∈ gw := gw_of (t_3 (List.mem_of_getElem? (i := 12) rfl)) rfl
theorem wSE_X5_digitAt : Cond.selects RX5 yX5_digitAt yX5_digitAt ∈ gw := gw_of (t_3 (List.mem_of_getElem? (i := 13) rfl)) rfl
theorem wCD_X5_digitAt : Cond.code yX5_digitAt cX5_digitAt 2 (Option.some FieldType.int) ∈ gw := gw_of (t_3 (List.mem_of_getElem? (i := 14) rfl)) rfl
theorem wML_X5_19 : Cond.methodLink RX5 19 yX5_at ∈ gw := gw_of (t_3 (List.mem_of_getElem? (i := 15) rfl)) rfl
theorem wML_X5_23 : Cond.methodLink RX5 23 yX5_digitOf ∈ gw := gw_of (t_3 (List.mem_of_getElem? (i := 16) rfl)) rfl
theorem wST_X5_digitOf : Cond.static yX5_digitOf ∈ gw := gw_of (t_3 (List.mem_of_getElem? (i := 17) rfl)) rfl
theorem wCD_X5_digitOf : Cond.code yX5_digitOf cX5_digitOf 1 (Option.some FieldType.int) ∈ gw := gw_of (t_3 (List.mem_of_getElem? (i := 18) rfl)) rfl
theorem wML_X2_72 : Cond.methodLink RX2 72 yX2_readSign ∈ gw := gw_of (t_3 (List.mem_of_getElem? (i := 19) rfl)) rfl
theorem wIM_X2_readSign : Cond.instanceMethod yX2_readSign ∈ gw := gw_of (t_3 (List.mem_of_getElem? (i := 21) rfl)) rfl
theorem wCD_X2_readSign : Cond.code yX2_readSign cX2_readSign 2 (Option.some FieldType.boolean) ∈ gw := gw_of (t_3 (List.mem_of_getElem? (i := 22) rfl)) rfl
theorem wML_X2_76 : Cond.methodLink RX2 76 yX2_readSymbols ∈ gw := gw_of (t_3 (List.mem_of_getElem? (i := 23) rfl)) rfl
theorem wIM_X2_readSymbols : Cond.instanceMethod yX2_readSymbols ∈ gw := gw_of (t_3 (List.mem_of_getElem? (i := 25) rfl)) rfl
theorem wCD_X2_readSymbols : Cond.code yX2_readSymbols cX2_readSymbols 2 (Option.some FieldType.int) ∈ gw := gw_of (t_3 (List.mem_of_getElem? (i := 26) rfl)) rfl
theorem wML_X2_88 : Cond.methodLink RX2 88 yX5_symbolValueAt ∈ gw := gw_of (t_3 (List.mem_of_getElem? (i := 27) rfl)) rfl
theorem wIM_X5_symbolValueAt : Cond.instanceMethod yX5_symbolValueAt ∈ gw := gw_of (t_3 (List.mem_of_getElem? (i := 28) rfl)) rfl
theorem wSE_X5_symbolValueAt : Cond.selects RX5 yX5_symbolValueAt yX5_symbolValueAt ∈ gw := gw_of (t_3 (List.mem_of_getElem? (i := 29) rfl)) rfl
theorem wCD_X5_symbolValueAt : Cond.code yX5_symbolValueAt cX5_symbolValueAt 3 (Option.some FieldType.int) ∈ gw := gw_of (t_3 (List.mem_of_getElem? (i := 30) rfl)) rfl
theorem wML_X2_53 : Cond.methodLink RX2 53 yX2_reasonAgainst ∈ gw := gw_of (t_3 (List.mem_of_getElem? (i := 31) rfl)) rfl
theorem wIM_X2_reasonAgainst : Cond.instanceMethod yX2_reasonAgainst ∈ gw := gw_of (t_3 (List.mem_of_getElem? (i := 33) rfl)) rfl
theorem wCD_X2_reasonAgainst : Cond.code yX2_reasonAgainst cX2_reasonAgainst 1 (Option.some FieldType.int) ∈ gw := gw_of (t_3 (List.mem_of_getElem? (i := 34) rfl)) rfl
theorem wML_X2_91 : Cond.methodLink RX2 91 yX2_hasPlaces ∈ gw := gw_of (t_3 (List.mem_of_getElem? (i := 35) rfl)) rfl
theorem wIM_X2_hasPlaces : Cond.instanceMethod yX2_hasPlaces ∈ gw := gw_of (t_3 (List.mem_of_getElem? (i := 37) rfl)) rfl
theorem wCD_X2_hasPlaces : Cond.code yX2_hasPlaces cX2_hasPlaces 1 (Option.some FieldType.boolean) ∈ gw := gw_of (t_3 (List.mem_of_getElem? (i := 38) rfl)) rfl
theorem wML_X2_94 : Cond.methodLink RX2 94 yX3_size ∈ gw := gw_of (t_3 (List.mem_of_getElem? (i := 39) rfl)) rfl
theorem wMN_X2_97 : Cond.methodLinkNest RX2 97 yX6_isAtMost "BitLevels" ∈ lw_tbl := List.mem_append_right _ (t_3 (List.mem_of_getElem? (i := 40) rfl))
theorem wML_X2_101 : Cond.methodLink RX2 101 yX3_hasSpan ∈ gw := gw_of (t_3 (List.mem_of_getElem? (i := 41) rfl)) rfl
theorem wML_X2_104 : Cond.methodLink RX2 104 yX3_hasPlace ∈ gw := gw_of (t_3 (List.mem_of_getElem? (i := 42) rfl)) rfl
theorem wML_X2_56 : Cond.methodLink RX2 56 yX2_perform ∈ gw := gw_of (t_3 (List.mem_of_getElem? (i := 43) rfl)) rfl
theorem wIM_X2_perform : Cond.instanceMethod yX2_perform ∈ gw := gw_of (t_3 (List.mem_of_getElem? (i := 45) rfl)) rfl
theorem wCD_X2_perform : Cond.code yX2_perform cX2_perform 1 none ∈ gw := gw_of (t_3 (List.mem_of_getElem? (i := 46) rfl)) rfl
theorem wML_X2_108 : Cond.methodLink RX2 108 yX2_putSymbolsIn ∈ gw := gw_of (t_3 (List.mem_of_getElem? (i := 47) rfl)) rfl
theorem wIM_X2_putSymbolsIn : Cond.instanceMethod yX2_putSymbolsIn ∈ gw := gw_of (t_3 (List.mem_of_getElem? (i := 49) rfl)) rfl
theorem wCD_X2_putSymbolsIn : Cond.code yX2_putSymbolsIn cX2_putSymbolsIn 2 none ∈ gw := gw_of (t_3 (List.mem_of_getElem? (i := 50) rfl)) rfl
theorem wML_X2_122 : Cond.methodLink RX2 122 yX3_insert ∈ gw := gw_of (t_3 (List.mem_of_getElem? (i := 51) rfl)) rfl
theorem wML_X2_111 : Cond.methodLink RX2 111 yX2_takeSpanOut ∈ gw := gw_of (t_3 (List.mem_of_getElem? (i := 52) rfl)) rfl
theorem wIM_X2_takeSpanOut : Cond.instanceMethod yX2_takeSpanOut ∈ gw := gw_of (t_3 (List.mem_of_getElem? (i := 54) rfl)) rfl
theorem wCD_X2_takeSpanOut : Cond.code yX2_takeSpanOut cX2_takeSpanOut 2 none ∈ gw := gw_of (t_3 (List.mem_of_getElem? (i := 55) rfl)) rfl
theorem wML_X2_125 : Cond.methodLink RX2 125 yX3_remove ∈ gw := gw_of (t_3 (List.mem_of_getElem? (i := 56) rfl)) rfl
theorem wML_X2_114 : Cond.methodLink RX2 114 yX3_exchange ∈ gw := gw_of (t_3 (List.mem_of_getElem? (i := 57) rfl)) rfl
theorem wML_X2_118 : Cond.methodLink RX2 118 yX3_reverse ∈ gw := gw_of (t_3 (List.mem_of_getElem? (i := 58) rfl)) rfl
theorem wML_X6_206 : Cond.methodLink RX6 206 yX2_reason ∈ gw := gw_of (t_3 (List.mem_of_getElem? (i := 59) rfl)) rfl
theorem wIM_X2_reason : Cond.instanceMethod yX2_reason ∈ gw := gw_of (t_3 (List.mem_of_getElem? (i := 60) rfl)) rfl
theorem wSE_X2_reason : Cond.selects RX2 yX2_reason yX2_reason ∈ gw := gw_of (t_3 (List.mem_of_getElem? (i := 61) rfl)) rfl
theorem wCD_X2_reason : Cond.code yX2_reason cX2_reason 1 (Option.some FieldType.int) ∈ gw := gw_of (t_3 (List.mem_of_getElem? (i := 62) rfl)) rfl
theorem wML_X6_209 : Cond.methodLink RX6 209 yX2_position ∈ gw := gw_of (t_3 (List.mem_of_getElem? (i := 63) rfl)) rfl
theorem wIM_X2_position : Cond.instanceMethod yX2_position ∈ gw := gw_of (t_3 (List.mem_of_getElem? (i := 64) rfl)) rfl
theorem wSE_X2_position : Cond.selects RX2 yX2_position yX2_position ∈ gw := gw_of (t_3 (List.mem_of_getElem? (i := 65) rfl)) rfl
theorem wCD_X2_position : Cond.code yX2_position cX2_position 1 (Option.some FieldType.int) ∈ gw := gw_of (t_3 (List.mem_of_getElem? (i := 66) rfl)) rfl
theorem wML_X6_212 : Cond.methodLink RX6 212 yX2_cause ∈ gw := gw_of (t_3 (List.mem_of_getElem? (i := 67) rfl)) rfl
theorem wIM_X2_cause : Cond.instanceMethod yX2_cause ∈ gw := gw_of (t_3 (List.mem_of_getElem? (i := 68) rfl)) rfl
theorem wSE_X2_cause : Cond.selects RX2 yX2_cause yX2_cause ∈ gw := gw_of (t_3 (List.mem_of_getElem? (i := 69) rfl)) rfl
theorem wCD_X2_cause : Cond.code yX2_cause cX2_cause 1 (Option.some FieldType.int) ∈ gw := gw_of (t_3 (List.mem_of_getElem? (i := 70) rfl)) rfl
theorem wML_L_116 : Cond.methodLink RL 116 yX6_play ∈ gw := gw_of (t_3 (List.mem_of_getElem? (i := 71) rfl)) rfl
theorem wIM_X6_play : Cond.instanceMethod yX6_play ∈ gw := gw_of (t_3 (List.mem_of_getElem? (i := 72) rfl)) rfl
theorem wSE_X6_play : Cond.selects RX6 yX6_play yX6_play ∈ gw := gw_of (t_3 (List.mem_of_getElem? (i := 73) rfl)) rfl
theorem wCD_X6_play : Cond.code yX6_play cX6_play 1 (Option.some FieldType.int) ∈ gw := gw_of (t_3 (List.mem_of_getElem? (i := 74) rfl)) rfl
theorem wML_X6_215 : Cond.methodLink RX6 215 yX2_outcome ∈ gw := gw_of (t_3 (List.mem_of_getElem? (i := 75) rfl)) rfl
theorem wIM_X2_outcome : Cond.instanceMethod yX2_outcome ∈ gw := gw_of (t_3 (List.mem_of_getElem? (i := 76) rfl)) rfl
theorem wSE_X2_outcome : Cond.selects RX2 yX2_outcome yX2_outcome ∈ gw := gw_of (t_3 (List.mem_of_getElem? (i := 77) rfl)) rfl
theorem wCD_X2_outcome : Cond.code yX2_outcome cX2_outcome 1 (Option.some (FieldType.object "BitLevels$Row")) ∈ gw := gw_of (t_3 (List.mem_of_getElem? (i := 78) rfl)) rfl
theorem wML_X6_219 : Cond.methodLink RX6 219 yX3_copyFrom ∈ gw := gw_of (t_3 (List.mem_of_getElem? (i := 79) rfl)) rfl
theorem wCL_L_10 : Cond.classLink RL 10 RX7 ∈ gw := gw_of (t_3 (List.mem_of_getElem? (i := 80) rfl)) rfl
theorem wIS_X7 : Cond.instantiable RX7 15 ∈ gw := gw_of (t_3 (List.mem_of_getElem? (i := 81) rfl)) rfl
theorem wML_L_12 : Cond.methodLink RL 12 yX7_init ∈ gw := gw_of (t_3 (List.mem_of_getElem? (i := 82) rfl)) rfl
theorem wIM_X7_init : Cond.instanceMethod yX7_init ∈ gw := gw_of (t_3 (List.mem_of_getElem? (i := 83) rfl)) rfl
theorem wCD_X7_init : Cond.code yX7_init cX7_init 1 none ∈ gw := gw_of (t_3 (List.mem_of_getElem? (i := 84) rfl)) rfl
theorem wML_X7_1 : Cond.methodLink RX7 1 objectInit ∈ gw := gw_of (t_3 (List.mem_of_getElem? (i := 85) rfl)) rfl
theorem wFL_X7_7 : Cond.fieldLink RX7 7 RX7 "s" "[I" ∈ gw := gw_of (t_3 (List.mem_of_getElem? (i := 86) rfl)) rfl
theorem wFL_X7_13 : Cond.fieldLink RX7 13 RX7 "was" "[I" ∈ gw := gw_of (t_3 (List.mem_of_getElem? (i := 87) rfl)) rfl
theorem wFL_X7_16 : Cond.fieldLink RX7 16 RX7 "begun" "[I" ∈ gw := gw_of (t_3 (List.mem_of_getElem? (i := 88) rfl)) rfl
theorem wFL_X7_19 : Cond.fieldLink RX7 19 RX7 "aside" "[I" ∈ gw := gw_of (t_3 (List.mem_of_getElem? (i := 89) rfl)) rfl
theorem wFL_X7_43 : Cond.fieldLink RX7 43 RX7 "states" "I" ∈ gw := gw_of (t_3 (List.mem_of_getElem? (i := 90) rfl)) rfl
theorem wFL_X7_22 : Cond.fieldLink RX7 22 RX7 "text" "[C" ∈ gw := gw_of (t_3 (List.mem_of_getElem? (i := 91) rfl)) rfl
theorem wFL_X7_114 : Cond.fieldLink RX7 114 RX7 "typed" "I" ∈ gw := gw_of (t_3 (List.mem_of_getElem? (i := 92) rfl)) rfl
theorem wFL_X7_118 : Cond.fieldLink RX7 118 RX7 "at" "I" ∈ gw := gw_of (t_3 (List.mem_of_getElem? (i := 93) rfl)) rfl
theorem wFL_X7_154 : Cond.fieldLink RX7 154 RX7 "reason" "I" ∈ gw := gw_of (t_3 (List.mem_of_getElem? (i := 94) rfl)) rfl
theorem wFL_X7_134 : Cond.fieldLink RX7 134 RX7 "cause" "I" ∈ gw := gw_of (t_3 (List.mem_of_getElem? (i := 95) rfl)) rfl
theorem wFL_X7_124 : Cond.fieldLink RX7 124 RX7 "number" "I" ∈ gw := gw_of (t_3 (List.mem_of_getElem? (i := 96) rfl)) rfl
theorem wFL_X7_26 : Cond.fieldLink RX7 26 RX7 "from" "[I" ∈ gw := gw_of (t_3 (List.mem_of_getElem? (i := 97) rfl)) rfl
theorem wFL_X7_29 : Cond.fieldLink RX7 29 RX7 "to" "[I" ∈ gw := gw_of (t_3 (List.mem_of_getElem? (i := 98) rfl)) rfl
theorem wFL_X7_32 : Cond.fieldLink RX7 32 RX7 "often" "[I" ∈ gw := gw_of (t_3 (List.mem_of_getElem? (i := 99) rfl)) rfl
theorem wFL_X7_35 : Cond.fieldLink RX7 35 RX7 "often2" "[I" ∈ gw := gw_of (t_3 (List.mem_of_getElem? (i := 100) rfl)) rfl
theorem wLY_X7_s : Cond.laysFinal RX7 RX7 "s" "[I" ∈ gw := gw_of (t_3 (List.mem_of_getElem? (i := 101) rfl)) rfl
theorem wLY_X7_was : Cond.laysFinal RX7 RX7 "was" "[I" ∈ gw := gw_of (t_3 (List.mem_of_getElem? (i := 103) rfl)) rfl
theorem wLY_X7_begun : Cond.laysFinal RX7 RX7 "begun" "[I" ∈ gw := gw_of (t_3 (List.mem_of_getElem? (i := 105) rfl)) rfl
theorem wLY_X7_aside : Cond.laysFinal RX7 RX7 "aside" "[I" ∈ gw := gw_of (t_3 (List.mem_of_getElem? (i := 107) rfl)) rfl
theorem wLY_X7_states : Cond.lays RX7 RX7 "states" "I" ∈ gw := gw_of (t_3 (List.mem_of_getElem? (i := 109) rfl)) rfl
theorem wLY_X7_text : Cond.laysFinal RX7 RX7 "text" "[C" ∈ gw := gw_of (t_3 (List.mem_of_getElem? (i := 111) rfl)) rfl
theorem wLY_X7_typed : Cond.lays RX7 RX7 "typed" "I" ∈ gw := gw_of (t_3 (List.mem_of_getElem? (i := 113) rfl)) rfl
theorem wLY_X7_at : Cond.lays RX7 RX7 "at" "I" ∈ gw := gw_of (t_3 (List.mem_of_getElem? (i := 115) rfl)) rfl
theorem wLY_X7_reason : Cond.lays RX7 RX7 "reason" "I" ∈ gw := gw_of (t_3 (List.mem_of_getElem? (i := 117) rfl)) rfl
theorem wLY_X7_cause : Cond.lays RX7 RX7 "cause" "I" ∈ gw := gw_of (t_3 (List.mem_of_getElem? (i := 119) rfl)) rfl
theorem wLY_X7_number : Cond.lays RX7 RX7 "number" "I" ∈ gw := gw_of (t_3 (List.mem_of_getElem? (i := 121) rfl)) rfl
theorem wLY_X7_from : Cond.laysFinal RX7 RX7 "from" "[I" ∈ gw := gw_of (t_3 (List.mem_of_getElem? (i := 123) rfl)) rfl
theorem wLY_X7_to : Cond.laysFinal RX7 RX7 "to" "[I" ∈ gw := gw_of (t_3 (List.mem_of_getElem? (i := 125) rfl)) rfl
theorem wLY_X7_often : Cond.laysFinal RX7 RX7 "often" "[I" ∈ gw := gw_of (t_3 (List.mem_of_getElem? (i := 127) rfl)) rfl
theorem wLY_X7_often2 : Cond.laysFinal RX7 RX7 "often2" "[I" ∈ gw := gw_of (t_3 (List.mem_of_getElem? (i := 129) rfl)) rfl
theorem wML_L_17 : Cond.methodLink RL 17 yX7_put ∈ gw := gw_of (t_3 (List.mem_of_getElem? (i := 132) rfl)) rfl
theorem wIM_X7_put : Cond.instanceMethod yX7_put ∈ gw := gw_of (t_3 (List.mem_of_getElem? (i := 133) rfl)) rfl
theorem wSE_X7_put : Cond.selects RX7 yX7_put yX7_put ∈ gw := gw_of (t_3 (List.mem_of_getElem? (i := 134) rfl)) rfl
theorem wCD_X7_put : Cond.code yX7_put cX7_put 3 (Option.some FieldType.int) ∈ gw := gw_of (t_3 (List.mem_of_getElem? (i := 135) rfl)) rfl
theorem wML_X7_48 : Cond.methodLink RX7 48 yX7_keeps ∈ gw := gw_of (t_3 (List.mem_of_getElem? (i := 136) rfl)) rfl
theorem wIM_X7_keeps : Cond.instanceMethod yX7_keeps ∈ gw := gw_of (t_3 (List.mem_of_getElem? (i := 138) rfl)) rfl
theorem wCD_X7_keeps : Cond.code yX7_keeps cX7_keeps 2 none ∈ gw := gw_of (t_3 (List.mem_of_getElem? (i := 139) rfl)) rfl
theorem wML_X7_51 : Cond.methodLink RX7 51 yX7_puts ∈ gw := gw_of (t_3 (List.mem_of_getElem? (i := 140) rfl)) rfl
theorem wIM_X7_puts : Cond.instanceMethod yX7_puts ∈ gw := gw_of (t_3 (List.mem_of_getElem? (i := 142) rfl)) rfl
theorem wCD_X7_puts : Cond.code yX7_puts cX7_puts 4 (Option.some FieldType.int) ∈ gw := gw_of (t_3 (List.mem_of_getElem? (i := 143) rfl)) rfl
theorem wML_X7_38 : Cond.methodLink RX7 38 yX7_in ∈ gw := gw_of (t_3 (List.mem_of_getElem? (i := 144) rfl)) rfl
theorem wST_X7_in : Cond.static yX7_in ∈ gw := gw_of (t_3 (List.mem_of_getElem? (i := 145) rfl)) rfl
theorem wCD_X7_in : Cond.code yX7_in cX7_in 3 (Option.some FieldType.boolean) ∈ gw := gw_of (t_3 (List.mem_of_getElem? (i := 146) rfl)) rfl
theorem wKI_X7_42 : Cond.constant RX7 42 (-1000001) ∈ gw := gw_of (t_3 (List.mem_of_getElem? (i := 147) rfl)) rfl
theorem wKI_X7_47 : Cond.constant RX7 47 (-1000003) ∈ gw := gw_of (t_3 (List.mem_of_getElem? (i := 148) rfl)) rfl
theorem wML_X7_55 : Cond.methodLink RX7 55 yX7_acted ∈ gw := gw_of (t_3 (List.mem_of_getElem? (i := 149) rfl)) rfl
theorem wIM_X7_acted : Cond.instanceMethod yX7_acted ∈ gw := gw_of (t_3 (List.mem_of_getElem? (i := 151) rfl)) rfl
theorem wCD_X7_acted : Cond.code yX7_acted cX7_acted 3 (Option.some FieldType.int) ∈ gw := gw_of (t_3 (List.mem_of_getElem? (i := 152) rfl)) rfl
theorem wML_L_22 : Cond.methodLink RL 22 yX7_take ∈ gw := gw_of (t_3 (List.mem_of_getElem? (i := 153) rfl)) rfl
theorem wIM_X7_take : Cond.instanceMethod yX7_take ∈ gw := gw_of (t_3 (List.mem_of_getElem? (i := 154) rfl)) rfl
theorem wSE_X7_take : Cond.selects RX7 yX7_take yX7_take ∈ gw := gw_of (t_3 (List.mem_of_getElem? (i := 155) rfl)) rfl
theorem wCD_X7_take : Cond.code yX7_take cX7_take 2 (Option.some FieldType.int) ∈ gw := gw_of (t_3 (List.mem_of_getElem? (i := 156) rfl)) rfl
theorem wML_X7_63 : Cond.methodLink RX7 63 yX7_takes ∈ gw := gw_of (t_3 (List.mem_of_getElem? (i := 157) rfl)) rfl
theorem wIM_X7_takes : Cond.instanceMethod yX7_takes ∈ gw := gw_of (t_3 (List.mem_of_getElem? (i := 159) rfl)) rfl
theorem wCD_X7_takes : Cond.code yX7_takes cX7_takes 4 (Option.some FieldType.int) ∈ gw := gw_of (t_3 (List.mem_of_getElem? (i := 160) rfl)) rfl
theorem wML_X7_59 : Cond.methodLink RX7 59 yX7_isPlace ∈ gw := gw_of (t_3 (List.mem_of_getElem? (i := 161) rfl)) rfl
theorem wIM_X7_isPlace : Cond.instanceMethod yX7_isPlace ∈ gw := gw_of (t_3 (List.mem_of_getElem? (i := 163) rfl)) rfl
theorem wCD_X7_isPlace : Cond.code yX7_isPlace cX7_isPlace 2 (Option.some FieldType.boolean) ∈ gw := gw_of (t_3 (List.mem_of_getElem? (i := 164) rfl)) rfl
theorem wML_L_26 : Cond.methodLink RL 26 yX7_change ∈ gw := gw_of (t_3 (List.mem_of_getElem? (i := 165) rfl)) rfl
theorem wIM_X7_change : Cond.instanceMethod yX7_change ∈ gw := gw_of (t_3 (List.mem_of_getElem? (i := 166) rfl)) rfl
theorem wSE_X7_change : Cond.selects RX7 yX7_change yX7_change ∈ gw := gw_of (t_3 (List.mem_of_getElem? (i := 167) rfl)) rfl
theorem wCD_X7_change : Cond.code yX7_change cX7_change 4 (Option.some FieldType.int) ∈ gw := gw_of (t_3 (List.mem_of_getElem? (i := 168) rfl)) rfl
theorem wML_L_30 : Cond.methodLink RL 30 yX7_swap ∈ gw := gw_of (t_3 (List.mem_of_getElem? (i := 169) rfl)) rfl
theorem wIM_X7_swap : Cond.instanceMethod yX7_swap ∈ gw := gw_of (t_3 (List.mem_of_getElem? (i := 170) rfl)) rfl
theorem wSE_X7_swap : Cond.selects RX7 yX7_swap yX7_swap ∈ gw := gw_of (t_3 (List.mem_of_getElem? (i := 171) rfl)) rfl
theorem wCD_X7_swap : Cond.code yX7_swap cX7_swap 3 (Option.some FieldType.int) ∈ gw := gw_of (t_3 (List.mem_of_getElem? (i := 172) rfl)) rfl
theorem wML_X7_66 : Cond.methodLink RX7 66 yX7_swaps ∈ gw := gw_of (t_3 (List.mem_of_getElem? (i := 173) rfl)) rfl
theorem wIM_X7_swaps : Cond.instanceMethod yX7_swaps ∈ gw := gw_of (t_3 (List.mem_of_getElem? (i := 175) rfl)) rfl
theorem wCD_X7_swaps : Cond.code yX7_swaps cX7_swaps 4 (Option.some FieldType.int) ∈ gw := gw_of (t_3 (List.mem_of_getElem? (i := 176) rfl)) rfl
theorem wML_L_34 : Cond.methodLink RL 34 yX7_turn ∈ gw := gw_of (t_3 (List.mem_of_getElem? (i := 177) rfl)) rfl
theorem wIM_X7_turn : Cond.instanceMethod yX7_turn ∈ gw := gw_of (t_3 (List.mem_of_getElem? (i := 178) rfl)) rfl
theorem wSE_X7_turn : Cond.selects RX7 yX7_turn yX7_turn ∈ gw := gw_of (t_3 (List.mem_of_getElem? (i := 179) rfl)) rfl
theorem wCD_X7_turn : Cond.code yX7_turn cX7_turn 3 (Option.some FieldType.int) ∈ gw := gw_of (t_3 (List.mem_of_getElem? (i := 180) rfl)) rfl
theorem wML_X7_73 : Cond.methodLink RX7 73 yX7_turns ∈ gw := gw_of (t_3 (List.mem_of_getElem? (i := 181) rfl)) rfl
theorem wIM_X7_turns : Cond.instanceMethod yX7_turns ∈ gw := gw_of (t_3 (List.mem_of_getElem? (i := 183) rfl)) rfl
theorem wCD_X7_turns : Cond.code yX7_turns cX7_turns 5 (Option.some FieldType.int) ∈ gw := gw_of (t_3 (List.mem_of_getElem? (i := 184) rfl)) rfl
theorem wML_X7_69 : Cond.methodLink RX7 69 yX7_isSpan ∈ gw := gw_of (t_3 (List.mem_of_getElem? (i := 185) rfl)) rfl
theorem wIM_X7_isSpan : Cond.instanceMethod yX7_isSpan ∈ gw := gw_of (t_3 (List.mem_of_getElem? (i := 187) rfl)) rfl
theorem wCD_X7_isSpan : Cond.code yX7_isSpan cX7_isSpan 3 (Option.some FieldType.boolean) ∈ gw := gw_of (t_3 (List.mem_of_getElem? (i := 188) rfl)) rfl
theorem wML_L_38 : Cond.methodLink RL 38 yX7_sort ∈ gw := gw_of (t_3 (List.mem_of_getElem? (i := 189) rfl)) rfl
theorem wIM_X7_sort : Cond.instanceMethod yX7_sort ∈ gw := gw_of (t_3 (List.mem_of_getElem? (i := 190) rfl)) rfl
theorem wSE_X7_sort : Cond.selects RX7 yX7_sort yX7_sort ∈ gw := gw_of (t_3 (List.mem_of_getElem? (i := 191) rfl)) rfl
theorem wCD_X7_sort : Cond.code yX7_sort cX7_sort 7 (Option.some FieldType.int) ∈ gw := gw_of (t_3 (List.mem_of_getElem? (i := 192) rfl)) rfl
theorem wML_X7_76 : Cond.methodLink RX7 76 yX7_counts ∈ gw := gw_of (t_3 (List.mem_of_getElem? (i := 193) rfl)) rfl
theorem wIM_X7_counts : Cond.instanceMethod yX7_counts ∈ gw := gw_of (t_3 (List.mem_of_getElem? (i := 195) rfl)) rfl
theorem wCD_X7_counts : Cond.code yX7_counts cX7_counts 4 none ∈ gw := gw_of (t_3 (List.mem_of_getElem? (i := 196) rfl)) rfl
theorem wML_L_43 : Cond.methodLink RL 43 yX7_levelOf ∈ gw := gw_of (t_3 (List.mem_of_getElem? (i := 197) rfl)) rfl
theorem wIM_X7_levelOf : Cond.instanceMethod yX7_levelOf ∈ gw := gw_of (t_3 (List.mem_of_getElem? (i := 198) rfl)) rfl
theorem wSE_X7_levelOf : Cond.selects RX7 yX7_levelOf yX7_levelOf ∈ gw := gw_of (t_3 (List.mem_of_getElem? (i := 199) rfl)) rfl
theorem wCD_X7_levelOf : Cond.code yX7_levelOf cX7_levelOf 5 (Option.some FieldType.int) ∈ gw := gw_of (t_3 (List.mem_of_getElem? (i := 200) rfl)) rfl
theorem wKI_X7_83 : Cond.constant RX7 83 (-1000004) ∈ gw := gw_of (t_3 (List.mem_of_getElem? (i := 201) rfl)) rfl
theorem wML_X7_84 : Cond.methodLink RX7 84 yX7_lays ∈ gw := gw_of (t_3 (List.mem_of_getElem? (i := 202) rfl)) rfl
theorem wIM_X7_lays : Cond.instanceMethod yX7_lays ∈ gw := gw_of (t_3 (List.mem_of_getElem? (i := 204) rfl)) rfl
theorem wCD_X7_lays : Cond.code yX7_lays cX7_lays 5 none ∈ gw := gw_of (t_3 (List.mem_of_getElem? (i := 205) rfl)) rfl
theorem wML_X7_80 : Cond.methodLink RX7 80 yX7_bit ∈ gw := gw_of (t_3 (List.mem_of_getElem? (i := 206) rfl)) rfl
theorem wIM_X7_bit : Cond.instanceMethod yX7_bit ∈ gw := gw_of (t_3 (List.mem_of_getElem? (i := 208) rfl)) rfl
theorem wCD_X7_bit : Cond.code yX7_bit cX7_bit 3 (Option.some FieldType.int) ∈ gw := gw_of (t_3 (List.mem_of_getElem? (i := 209) rfl)) rfl
theorem wML_L_47 : Cond.methodLink RL 47 yX7_blockOf ∈ gw := gw_of (t_3 (List.mem_of_getElem? (i := 210) rfl)) rfl
theorem wIM_X7_blockOf : Cond.instanceMethod yX7_blockOf ∈ gw := gw_of (t_3 (List.mem_of_getElem? (i := 211) rfl)) rfl
theorem wSE_X7_blockOf : Cond.selects RX7 yX7_blockOf yX7_blockOf ∈ gw := gw_of (t_3 (List.mem_of_getElem? (i := 212) rfl)) rfl
theorem wCD_X7_blockOf : Cond.code yX7_blockOf cX7_blockOf 9 (Option.some FieldType.int) ∈ gw := gw_of (t_3 (List.mem_of_getElem? (i := 213) rfl)) rfl
theorem wML_X7_87 : Cond.methodLink RX7 87 yX7_blocks ∈ gw := gw_of (t_3 (List.mem_of_getElem? (i := 214) rfl)) rfl
theorem wIM_X7_blocks : Cond.instanceMethod yX7_blocks ∈ gw := gw_of (t_3 (List.mem_of_getElem? (i := 216) rfl)) rfl
theorem wCD_X7_blocks : Cond.code yX7_blocks cX7_blocks 1 (Option.some FieldType.int) ∈ gw := gw_of (t_3 (List.mem_of_getElem? (i := 217) rfl)) rfl
theorem wML_L_52 : Cond.methodLink RL 52 yX7_bits ∈ gw := gw_of (t_3 (List.mem_of_getElem? (i := 218) rfl)) rfl
theorem wIM_X7_bits : Cond.instanceMethod yX7_bits ∈ gw := gw_of (t_3 (List.mem_of_getElem? (i := 219) rfl)) rfl
theorem wSE_X7_bits : Cond.selects RX7 yX7_bits yX7_bits ∈ gw := gw_of (t_3 (List.mem_of_getElem? (i := 220) rfl)) rfl
theorem wCD_X7_bits : Cond.code yX7_bits cX7_bits 5 (Option.some FieldType.long) ∈ gw := gw_of (t_3 (List.mem_of_getElem? (i := 221) rfl)) rfl
theorem wKL_X7_91 : Cond.constantLong RX7 91 (-1000001) ∈ gw := gw_of (t_3 (List.mem_of_getElem? (i := 222) rfl)) rfl
theorem wKL_X7_93 : Cond.constantLong RX7 93 (2) ∈ gw := gw_of (t_3 (List.mem_of_getElem? (i := 223) rfl)) rfl
theorem wML_L_56 : Cond.methodLink RL 56 yX7_symbolAt ∈ gw := gw_of (t_3 (List.mem_of_getElem? (i := 224) rfl)) rfl
theorem wIM_X7_symbolAt : Cond.instanceMethod yX7_symbolAt ∈ gw := gw_of (t_3 (List.mem_of_getElem? (i := 225) rfl)) rfl
theorem wSE_X7_symbolAt : Cond.selects RX7 yX7_symbolAt yX7_symbolAt ∈ gw := gw_of (t_3 (List.mem_of_getElem? (i := 226) rfl)) rfl
theorem wCD_X7_symbolAt : Cond.code yX7_symbolAt cX7_symbolAt 2 (Option.some FieldType.int) ∈ gw := gw_of (t_3 (List.mem_of_getElem? (i := 227) rfl)) rfl
theorem wML_L_60 : Cond.methodLink RL 60 yX7_rank ∈ gw := gw_of (t_3 (List.mem_of_getElem? (i := 228) rfl)) rfl
theorem wIM_X7_rank : Cond.instanceMethod yX7_rank ∈ gw := gw_of (t_3 (List.mem_of_getElem? (i := 229) rfl)) rfl
theorem wSE_X7_rank : Cond.selects RX7 yX7_rank yX7_rank ∈ gw := gw_of (t_3 (List.mem_of_getElem? (i := 230) rfl)) rfl
theorem wCD_X7_rank : Cond.code yX7_rank cX7_rank 3 (Option.some FieldType.int) ∈ gw := gw_of (t_3 (List.mem_of_getElem? (i := 231) rfl)) rfl
theorem wML_L_64 : Cond.methodLink RL 64 yX7_select ∈ gw := gw_of (t_3 (List.mem_of_getElem? (i := 232) rfl)) rfl
theorem wIM_X7_select : Cond.instanceMethod yX7_select ∈ gw := gw_of (t_3 (List.mem_of_getElem? (i := 233) rfl)) rfl
theorem wSE_X7_select : Cond.selects RX7 yX7_select yX7_select ∈ gw := gw_of (t_3 (List.mem_of_getElem? (i := 234) rfl)) rfl
theorem wCD_X7_select : Cond.code yX7_select cX7_select 6 (Option.some FieldType.int) ∈ gw := gw_of (t_3 (List.mem_of_getElem? (i := 235) rfl)) rfl
theorem wML_L_68 : Cond.methodLink RL 68 yX7_smallest ∈ gw := gw_of (t_3 (List.mem_of_getElem? (i := 236) rfl)) rfl
theorem wIM_X7_smallest : Cond.instanceMethod yX7_smallest ∈ gw := gw_of (t_3 (List.mem_of_getElem? (i := 237) rfl)) rfl
theorem wSE_X7_smallest : Cond.selects RX7 yX7_smallest yX7_smallest ∈ gw := gw_of (t_3 (List.mem_of_getElem? (i := 238) rfl)) rfl
theorem wCD_X7_smallest : Cond.code yX7_smallest cX7_smallest 6 (Option.some FieldType.int) ∈ gw := gw_of (t_3 (List.mem_of_getElem? (i := 239) rfl)) rfl
theorem wML_L_72 : Cond.methodLink RL 72 yX7_below ∈ gw := gw_of (t_4 (List.mem_of_getElem? (i := 0) rfl)) rfl
theorem wIM_X7_below : Cond.instanceMethod yX7_below ∈ gw := gw_of (t_4 (List.mem_of_getElem? (i := 1) rfl)) rfl
theorem wSE_X7_below : Cond.selects RX7 yX7_below yX7_below ∈ gw := gw_of (t_4 (List.mem_of_getElem? (i := 2) rfl)) rfl
theorem wCD_X7_below : Cond.code yX7_below cX7_below 6 (Option.some FieldType.int) ∈ gw := gw_of (t_4 (List.mem_of_getElem? (i := 3) rfl)) rfl
theorem wML_L_76 : Cond.methodLink RL 76 yX7_notBelow ∈ gw := gw_of (t_4 (List.mem_of_getElem? (i := 4) rfl)) rfl
theorem wIM_X7_notBelow : Cond.instanceMethod yX7_notBelow ∈ gw := gw_of (t_4 (List.mem_of_getElem? (i := 5) rfl)) rfl
theorem wSE_X7_notBelow : Cond.selects RX7 yX7_notBelow yX7_notBelow ∈ gw := gw_of (t_4 (List.mem_of_getElem? (i := 6) rfl)) rfl
theorem wCD_X7_notBelow : Cond.code yX7_notBelow cX7_notBelow 7 (Option.some FieldType.int) ∈ gw := gw_of (t_4 (List.mem_of_getElem? (i := 7) rfl)) rfl
theorem wML_L_80 : Cond.methodLink RL 80 yX7_spanOf ∈ gw := gw_of (t_4 (List.mem_of_getElem? (i := 8) rfl)) rfl
theorem wIM_X7_spanOf : Cond.instanceMethod yX7_spanOf ∈ gw := gw_of (t_4 (List.mem_of_getElem? (i := 9) rfl)) rfl
theorem wSE_X7_spanOf : Cond.selects RX7 yX7_spanOf yX7_spanOf ∈ gw := gw_of (t_4 (List.mem_of_getElem? (i := 10) rfl)) rfl
theorem wCD_X7_spanOf : Cond.code yX7_spanOf cX7_spanOf 4 (Option.some FieldType.int) ∈ gw := gw_of (t_4 (List.mem_of_getElem? (i := 11) rfl)) rfl
theorem wML_X7_95 : Cond.methodLink RX7 95 yX7_unlike ∈ gw := gw_of (t_4 (List.mem_of_getElem? (i := 12) rfl)) rfl
theorem wIM_X7_unlike : Cond.instanceMethod yX7_unlike ∈ gw := gw_of (t_4 (List.mem_of_getElem? (i := 14) rfl)) rfl
theorem wCD_X7_unlike : Cond.code yX7_unlike cX7_unlike 3 (Option.some FieldType.int) ∈ gw := gw_of (t_4 (List.mem_of_getElem? (i := 15) rfl)) rfl
theorem wML_X7_98 : Cond.methodLink RX7 98 yX7_mostFrequent ∈ gw := gw_of (t_4 (List.mem_of_getElem? (i := 16) rfl)) rfl
theorem wIM_X7_mostFrequent : Cond.instanceMethod yX7_mostFrequent ∈ gw := gw_of (t_4 (List.mem_of_getElem? (i := 18) rfl)) rfl
theorem wCD_X7_mostFrequent : Cond.code yX7_mostFrequent cX7_mostFrequent 3 (Option.some FieldType.int) ∈ gw := gw_of (t_4 (List.mem_of_getElem? (i := 19) rfl)) rfl
theorem wML_X7_101 : Cond.methodLink RX7 101 yX7_sum ∈ gw := gw_of (t_4 (List.mem_of_getElem? (i := 20) rfl)) rfl
theorem wIM_X7_sum : Cond.instanceMethod yX7_sum ∈ gw := gw_of (t_4 (List.mem_of_getElem? (i := 22) rfl)) rfl
theorem wCD_X7_sum : Cond.code yX7_sum cX7_sum 5 (Option.some FieldType.int) ∈ gw := gw_of (t_4 (List.mem_of_getElem? (i := 23) rfl)) rfl
theorem wML_X7_104 : Cond.methodLink RX7 104 yX7_wrong ∈ gw := gw_of (t_4 (List.mem_of_getElem? (i := 24) rfl)) rfl
theorem wIM_X7_wrong : Cond.instanceMethod yX7_wrong ∈ gw := gw_of (t_4 (List.mem_of_getElem? (i := 26) rfl)) rfl
theorem wCD_X7_wrong : Cond.code yX7_wrong cX7_wrong 6 (Option.some FieldType.int) ∈ gw := gw_of (t_4 (List.mem_of_getElem? (i := 27) rfl)) rfl
theorem wML_L_85 : Cond.methodLink RL 85 yX7_product ∈ gw := gw_of (t_4 (List.mem_of_getElem? (i := 28) rfl)) rfl
theorem wIM_X7_product : Cond.instanceMethod yX7_product ∈ gw := gw_of (t_4 (List.mem_of_getElem? (i := 29) rfl)) rfl
theorem wSE_X7_product : Cond.selects RX7 yX7_product yX7_product ∈ gw := gw_of (t_4 (List.mem_of_getElem? (i := 30) rfl)) rfl
theorem wCD_X7_product : Cond.code yX7_product cX7_product 7 (Option.some FieldType.long) ∈ gw := gw_of (t_4 (List.mem_of_getElem? (i := 31) rfl)) rfl
theorem wKL_X7_107 : Cond.constantLong RX7 107 (9223372036854775807) ∈ gw := gw_of (t_4 (List.mem_of_getElem? (i := 32) rfl)) rfl
theorem wKL_X7_109 : Cond.constantLong RX7 109 (-1000003) ∈ gw := gw_of (t_4 (List.mem_of_getElem? (i := 33) rfl)) rfl
theorem wML_L_90 : Cond.methodLink RL 90 yX7_common ∈ gw := gw_of (t_4 (List.mem_of_getElem? (i := 34) rfl)) rfl
theorem wIM_X7_common : Cond.instanceMethod yX7_common ∈ gw := gw_of (t_4 (List.mem_of_getElem? (i := 35) rfl)) rfl
theorem wSE_X7_common : Cond.selects RX7 yX7_common yX7_common ∈ gw := gw_of (t_4 (List.mem_of_getElem? (i := 36) rfl)) rfl
theorem wCD_X7_common : Cond.code yX7_common cX7_common 12 (Option.some FieldType.int) ∈ gw := gw_of (t_4 (List.mem_of_getElem? (i := 37) rfl)) rfl
theorem wML_L_94 : Cond.methodLink RL 94 yX7_heaviest ∈ gw := gw_of (t_4 (List.mem_of_getElem? (i := 38) rfl)) rfl
theorem wIM_X7_heaviest : Cond.instanceMethod yX7_heaviest ∈ gw := gw_of (t_4 (List.mem_of_getElem? (i := 39) rfl)) rfl
theorem wSE_X7_heaviest : Cond.selects RX7 yX7_heaviest yX7_heaviest ∈ gw := gw_of (t_4 (List.mem_of_getElem? (i := 40) rfl)) rfl
theorem wCD_X7_heaviest : Cond.code yX7_heaviest cX7_heaviest 7 (Option.some FieldType.int) ∈ gw := gw_of (t_4 (List.mem_of_getElem? (i := 41) rfl)) rfl
theorem wML_L_98 : Cond.methodLink RL 98 yX7_count ∈ gw := gw_of (t_4 (List.mem_of_getElem? (i := 42) rfl)) rfl
theorem wIM_X7_count : Cond.instanceMethod yX7_count ∈ gw := gw_of (t_4 (List.mem_of_getElem? (i := 43) rfl)) rfl
theorem wSE_X7_count : Cond.selects RX7 yX7_count yX7_count ∈ gw := gw_of (t_4 (List.mem_of_getElem? (i := 44) rfl)) rfl
theorem wCD_X7_count : Cond.code yX7_count cX7_count 2 (Option.some FieldType.int) ∈ gw := gw_of (t_4 (List.mem_of_getElem? (i := 45) rfl)) rfl
theorem wML_X7_111 : Cond.methodLink RX7 111 yX7_ones ∈ gw := gw_of (t_4 (List.mem_of_getElem? (i := 46) rfl)) rfl
theorem wIM_X7_ones : Cond.instanceMethod yX7_ones ∈ gw := gw_of (t_4 (List.mem_of_getElem? (i := 48) rfl)) rfl
theorem wCD_X7_ones : Cond.code yX7_ones cX7_ones 4 (Option.some FieldType.int) ∈ gw := gw_of (t_4 (List.mem_of_getElem? (i := 49) rfl)) rfl
theorem wML_L_103 : Cond.methodLink RL 103 yX7_undo ∈ gw := gw_of (t_4 (List.mem_of_getElem? (i := 50) rfl)) rfl
theorem wIM_X7_undo : Cond.instanceMethod yX7_undo ∈ gw := gw_of (t_4 (List.mem_of_getElem? (i := 51) rfl)) rfl
theorem wSE_X7_undo : Cond.selects RX7 yX7_undo yX7_undo ∈ gw := gw_of (t_4 (List.mem_of_getElem? (i := 52) rfl)) rfl
theorem wCD_X7_undo : Cond.code yX7_undo cX7_undo 2 (Option.some FieldType.int) ∈ gw := gw_of (t_4 (List.mem_of_getElem? (i := 53) rfl)) rfl
theorem wKI_X7_117 : Cond.constant RX7 117 (-1000002) ∈ gw := gw_of (t_4 (List.mem_of_getElem? (i := 54) rfl)) rfl
theorem wML_L_107 : Cond.methodLink RL 107 yX7_type ∈ gw := gw_of (t_4 (List.mem_of_getElem? (i := 55) rfl)) rfl
theorem wIM_X7_type : Cond.instanceMethod yX7_type ∈ gw := gw_of (t_4 (List.mem_of_getElem? (i := 56) rfl)) rfl
theorem wSE_X7_type : Cond.selects RX7 yX7_type yX7_type ∈ gw := gw_of (t_4 (List.mem_of_getElem? (i := 57) rfl)) rfl
theorem wCD_X7_type : Cond.code yX7_type cX7_type 2 (Option.some FieldType.int) ∈ gw := gw_of (t_4 (List.mem_of_getElem? (i := 58) rfl)) rfl
theorem wML_L_111 : Cond.methodLink RL 111 yX7_clearText ∈ gw := gw_of (t_4 (List.mem_of_getElem? (i := 59) rfl)) rfl
theorem wIM_X7_clearText : Cond.instanceMethod yX7_clearText ∈ gw := gw_of (t_4 (List.mem_of_getElem? (i := 60) rfl)) rfl
theorem wSE_X7_clearText : Cond.selects RX7 yX7_clearText yX7_clearText ∈ gw := gw_of (t_4 (List.mem_of_getElem? (i := 61) rfl)) rfl
theorem wCD_X7_clearText : Cond.code yX7_clearText cX7_clearText 2 (Option.some FieldType.int) ∈ gw := gw_of (t_4 (List.mem_of_getElem? (i := 62) rfl)) rfl
theorem wML_L_115 : Cond.methodLink RL 115 yX7_fault ∈ gw := gw_of (t_4 (List.mem_of_getElem? (i := 63) rfl)) rfl
theorem wIM_X7_fault : Cond.instanceMethod yX7_fault ∈ gw := gw_of (t_4 (List.mem_of_getElem? (i := 64) rfl)) rfl
theorem wSE_X7_fault : Cond.selects RX7 yX7_fault yX7_fault ∈ gw := gw_of (t_4 (List.mem_of_getElem? (i := 65) rfl)) rfl
theorem wCD_X7_fault : Cond.code yX7_fault cX7_fault 3 (Option.some FieldType.int) ∈ gw := gw_of (t_4 (List.mem_of_getElem? (i := 66) rfl)) rfl
theorem wML_X7_157 : Cond.methodLink RX7 157 yX7_faulty ∈ gw := gw_of (t_4 (List.mem_of_getElem? (i := 67) rfl)) rfl
theorem wIM_X7_faulty : Cond.instanceMethod yX7_faulty ∈ gw := gw_of (t_4 (List.mem_of_getElem? (i := 69) rfl)) rfl
theorem wCD_X7_faulty : Cond.code yX7_faulty cX7_faulty 3 (Option.some FieldType.int) ∈ gw := gw_of (t_4 (List.mem_of_getElem? (i := 70) rfl)) rfl
theorem wML_X7_151 : Cond.methodLink RX7 151 yX7_doesNext ∈ gw := gw_of (t_4 (List.mem_of_getElem? (i := 71) rfl)) rfl
theorem wIM_X7_doesNext : Cond.instanceMethod yX7_doesNext ∈ gw := gw_of (t_4 (List.mem_of_getElem? (i := 73) rfl)) rfl
theorem wCD_X7_doesNext : Cond.code yX7_doesNext cX7_doesNext 7 (Option.some FieldType.int) ∈ gw := gw_of (t_4 (List.mem_of_getElem? (i := 74) rfl)) rfl
theorem wML_X7_121 : Cond.methodLink RX7 121 yX7_sign ∈ gw := gw_of (t_4 (List.mem_of_getElem? (i := 75) rfl)) rfl
theorem wIM_X7_sign : Cond.instanceMethod yX7_sign ∈ gw := gw_of (t_4 (List.mem_of_getElem? (i := 77) rfl)) rfl
theorem wCD_X7_sign : Cond.code yX7_sign cX7_sign 1 (Option.some FieldType.int) ∈ gw := gw_of (t_4 (List.mem_of_getElem? (i := 78) rfl)) rfl
theorem wML_X7_137 : Cond.methodLink RX7 137 yX7_readsNumber ∈ gw := gw_of (t_4 (List.mem_of_getElem? (i := 79) rfl)) rfl
theorem wIM_X7_readsNumber : Cond.instanceMethod yX7_readsNumber ∈ gw := gw_of (t_4 (List.mem_of_getElem? (i := 81) rfl)) rfl
theorem wCD_X7_readsNumber : Cond.code yX7_readsNumber cX7_readsNumber 2 (Option.some FieldType.boolean) ∈ gw := gw_of (t_4 (List.mem_of_getElem? (i := 82) rfl)) rfl
theorem wML_X7_130 : Cond.methodLink RX7 130 yX7_reads ∈ gw := gw_of (t_4 (List.mem_of_getElem? (i := 83) rfl)) rfl
theorem wIM_X7_reads : Cond.instanceMethod yX7_reads ∈ gw := gw_of (t_4 (List.mem_of_getElem? (i := 85) rfl)) rfl
theorem wCD_X7_reads : Cond.code yX7_reads cX7_reads 3 (Option.some FieldType.boolean) ∈ gw := gw_of (t_4 (List.mem_of_getElem? (i := 86) rfl)) rfl
theorem wML_X7_141 : Cond.methodLink RX7 141 yX7_readsSymbols ∈ gw := gw_of (t_4 (List.mem_of_getElem? (i := 87) rfl)) rfl
theorem wIM_X7_readsSymbols : Cond.instanceMethod yX7_readsSymbols ∈ gw := gw_of (t_4 (List.mem_of_getElem? (i := 89) rfl)) rfl
theorem wCD_X7_readsSymbols : Cond.code yX7_readsSymbols cX7_readsSymbols 2 (Option.some FieldType.boolean) ∈ gw := gw_of (t_4 (List.mem_of_getElem? (i := 90) rfl)) rfl
theorem wML_X7_127 : Cond.methodLink RX7 127 yX7_symbol ∈ gw := gw_of (t_4 (List.mem_of_getElem? (i := 91) rfl)) rfl
theorem wIM_X7_symbol : Cond.instanceMethod yX7_symbol ∈ gw := gw_of (t_4 (List.mem_of_getElem? (i := 93) rfl)) rfl
theorem wCD_X7_symbol : Cond.code yX7_symbol cX7_symbol 2 (Option.some FieldType.int) ∈ gw := gw_of (t_4 (List.mem_of_getElem? (i := 94) rfl)) rfl
theorem wML_X7_144 : Cond.methodLink RX7 144 yX7_putsAll ∈ gw := gw_of (t_4 (List.mem_of_getElem? (i := 95) rfl)) rfl
theorem wIM_X7_putsAll : Cond.instanceMethod yX7_putsAll ∈ gw := gw_of (t_4 (List.mem_of_getElem? (i := 97) rfl)) rfl
theorem wCD_X7_putsAll : Cond.code yX7_putsAll cX7_putsAll 6 (Option.some FieldType.int) ∈ gw := gw_of (t_4 (List.mem_of_getElem? (i := 98) rfl)) rfl
theorem wML_X7_148 : Cond.methodLink RX7 148 yX7_takesAll ∈ gw := gw_of (t_4 (List.mem_of_getElem? (i := 99) rfl)) rfl
theorem wIM_X7_takesAll : Cond.instanceMethod yX7_takesAll ∈ gw := gw_of (t_4 (List.mem_of_getElem? (i := 101) rfl)) rfl
theorem wCD_X7_takesAll : Cond.code yX7_takesAll cX7_takesAll 4 (Option.some FieldType.int) ∈ gw := gw_of (t_4 (List.mem_of_getElem? (i := 102) rfl)) rfl
theorem wML_L_119 : Cond.methodLink RL 119 yX7_play ∈ gw := gw_of (t_4 (List.mem_of_getElem? (i := 103) rfl)) rfl
theorem wIM_X7_play : Cond.instanceMethod yX7_play ∈ gw := gw_of (t_4 (List.mem_of_getElem? (i := 104) rfl)) rfl
theorem wSE_X7_play : Cond.selects RX7 yX7_play yX7_play ∈ gw := gw_of (t_4 (List.mem_of_getElem? (i := 105) rfl)) rfl
theorem wCD_X7_play : Cond.code yX7_play cX7_play 1 (Option.some FieldType.int) ∈ gw := gw_of (t_4 (List.mem_of_getElem? (i := 106) rfl)) rfl
theorem wSE_X0_dropOldest : Cond.selects RX0 yX0_dropOldest yX0_dropOldest ∈ gw := gw_sel (List.mem_of_getElem? (i := 0) rfl) rfl
theorem wSE_X1_moveBits : Cond.selects RX1 yX1_moveBits yX1_moveBits ∈ gw := gw_sel (List.mem_of_getElem? (i := 1) rfl) rfl
theorem wSE_X1_isOn : Cond.selects RX1 yX1_isOn yX1_isOn ∈ gw := gw_sel (List.mem_of_getElem? (i := 2) rfl) rfl
theorem wSE_X6_blocks : Cond.selects RX6 yX6_blocks yX6_blocks ∈ gw := gw_sel (List.mem_of_getElem? (i := 3) rfl) rfl
theorem wSE_X2_playEdit : Cond.selects RX2 yX2_playEdit yX2_playEdit ∈ gw := gw_sel (List.mem_of_getElem? (i := 4) rfl) rfl
theorem wSE_X2_readEdit : Cond.selects RX2 yX2_readEdit yX2_readEdit ∈ gw := gw_sel (List.mem_of_getElem? (i := 5) rfl) rfl
theorem wSE_X2_readNumber : Cond.selects RX2 yX2_readNumber yX2_readNumber ∈ gw := gw_sel (List.mem_of_getElem? (i := 6) rfl) rfl
theorem wSE_X2_readSign : Cond.selects RX2 yX2_readSign yX2_readSign ∈ gw := gw_sel (List.mem_of_getElem? (i := 7) rfl) rfl
theorem wSE_X2_readSymbols : Cond.selects RX2 yX2_readSymbols yX2_readSymbols ∈ gw := gw_sel (List.mem_of_getElem? (i := 8) rfl) rfl
theorem wSE_X2_reasonAgainst : Cond.selects RX2 yX2_reasonAgainst yX2_reasonAgainst ∈ gw := gw_sel (List.mem_of_getElem? (i := 9) rfl) rfl
theorem wSE_X2_hasPlaces : Cond.selects RX2 yX2_hasPlaces yX2_hasPlaces ∈ gw := gw_sel (List.mem_of_getElem? (i := 10) rfl) rfl
theorem wSE_X2_perform : Cond.selects RX2 yX2_perform yX2_perform ∈ gw := gw_sel (List.mem_of_getElem? (i := 11) rfl) rfl
theorem wSE_X2_putSymbolsIn : Cond.selects RX2 yX2_putSymbolsIn yX2_putSymbolsIn ∈ gw := gw_sel (List.mem_of_getElem? (i := 12) rfl) rfl
theorem wSE_X2_takeSpanOut : Cond.selects RX2 yX2_takeSpanOut yX2_takeSpanOut ∈ gw := gw_sel (List.mem_of_getElem? (i := 13) rfl) rfl
theorem wSE_X7_keeps : Cond.selects RX7 yX7_keeps yX7_keeps ∈ gw := gw_sel (List.mem_of_getElem? (i := 14) rfl) rfl
theorem wSE_X7_puts : Cond.selects RX7 yX7_puts yX7_puts ∈ gw := gw_sel (List.mem_of_getElem? (i := 15) rfl) rfl
theorem wSE_X7_acted : Cond.selects RX7 yX7_acted yX7_acted ∈ gw := gw_sel (List.mem_of_getElem? (i := 16) rfl) rfl
theorem wSE_X7_takes : Cond.selects RX7 yX7_takes yX7_takes ∈ gw := gw_sel (List.mem_of_getElem? (i := 17) rfl) rfl
theorem wSE_X7_isPlace : Cond.selects RX7 yX7_isPlace yX7_isPlace ∈ gw := gw_sel (List.mem_of_getElem? (i := 18) rfl) rfl
theorem wSE_X7_swaps : Cond.selects RX7 yX7_swaps yX7_swaps ∈ gw := gw_sel (List.mem_of_getElem? (i := 19) rfl) rfl
theorem wSE_X7_turns : Cond.selects RX7 yX7_turns yX7_turns ∈ gw := gw_sel (List.mem_of_getElem? (i := 20) rfl) rfl
theorem wSE_X7_isSpan : Cond.selects RX7 yX7_isSpan yX7_isSpan ∈ gw := gw_sel (List.mem_of_getElem? (i := 21) rfl) rfl
theorem wSE_X7_counts : Cond.selects RX7 yX7_counts yX7_counts ∈ gw := gw_sel (List.mem_of_getElem? (i := 22) rfl) rfl
theorem wSE_X7_lays : Cond.selects RX7 yX7_lays yX7_lays ∈ gw := gw_sel (List.mem_of_getElem? (i := 23) rfl) rfl
theorem wSE_X7_bit : Cond.selects RX7 yX7_bit yX7_bit ∈ gw := gw_sel (List.mem_of_getElem? (i := 24) rfl) rfl
theorem wSE_X7_blocks : Cond.selects RX7 yX7_blocks yX7_blocks ∈ gw := gw_sel (List.mem_of_getElem? (i := 25) rfl) rfl
theorem wSE_X7_unlike : Cond.selects RX7 yX7_unlike yX7_unlike ∈ gw := gw_sel (List.mem_of_getElem? (i := 26) rfl) rfl
theorem wSE_X7_mostFrequent : Cond.selects RX7 yX7_mostFrequent yX7_mostFrequent ∈ gw := gw_sel (List.mem_of_getElem? (i := 27) rfl) rfl
theorem wSE_X7_sum : Cond.selects RX7 yX7_sum yX7_sum ∈ gw := gw_sel (List.mem_of_getElem? (i := 28) rfl) rfl
theorem wSE_X7_wrong : Cond.selects RX7 yX7_wrong yX7_wrong ∈ gw := gw_sel (List.mem_of_getElem? (i := 29) rfl) rfl
theorem wSE_X7_ones : Cond.selects RX7 yX7_ones yX7_ones ∈ gw := gw_sel (List.mem_of_getElem? (i := 30) rfl) rfl
theorem wSE_X7_faulty : Cond.selects RX7 yX7_faulty yX7_faulty ∈ gw := gw_sel (List.mem_of_getElem? (i := 31) rfl) rfl
theorem wSE_X7_doesNext : Cond.selects RX7 yX7_doesNext yX7_doesNext ∈ gw := gw_sel (List.mem_of_getElem? (i := 32) rfl) rfl
theorem wSE_X7_sign : Cond.selects RX7 yX7_sign yX7_sign ∈ gw := gw_sel (List.mem_of_getElem? (i := 33) rfl) rfl
theorem wSE_X7_readsNumber : Cond.selects RX7 yX7_readsNumber yX7_readsNumber ∈ gw := gw_sel (List.mem_of_getElem? (i := 34) rfl) rfl
theorem wSE_X7_reads : Cond.selects RX7 yX7_reads yX7_reads ∈ gw := gw_sel (List.mem_of_getElem? (i := 35) rfl) rfl
theorem wSE_X7_readsSymbols : Cond.selects RX7 yX7_readsSymbols yX7_readsSymbols ∈ gw := gw_sel (List.mem_of_getElem? (i := 36) rfl) rfl
theorem wSE_X7_symbol : Cond.selects RX7 yX7_symbol yX7_symbol ∈ gw := gw_sel (List.mem_of_getElem? (i := 37) rfl) rfl
theorem wSE_X7_putsAll : Cond.selects RX7 yX7_putsAll yX7_putsAll ∈ gw := gw_sel (List.mem_of_getElem? (i := 38) rfl) rfl
theorem wSE_X7_takesAll : Cond.selects RX7 yX7_takesAll yX7_takesAll ∈ gw := gw_sel (List.mem_of_getElem? (i := 39) rfl) rfl
theorem inX0 : ∀ w ∈ u_ws RX0 TX0 2, w ∈ gw := by
  intro w hw
  obtain ⟨k, hk, rfl⟩ := List.mem_map.mp hw
  have hk := List.mem_range.mp hk
  match k, hk with
  | 0, _ => exact wLY_X0_states
  | 1, _ => exact wLY_X0_size
theorem inX1 : ∀ w ∈ u_ws RX1 TX1 4, w ∈ gw := by
  intro w hw
  obtain ⟨k, hk, rfl⟩ := List.mem_map.mp hw
  have hk := List.mem_range.mp hk
  match k, hk with
  | 0, _ => exact wLY_X1_symbols
  | 1, _ => exact wLY_X1_origins
  | 2, _ => exact wLY_X1_goals
  | 3, _ => exact wLY_X1_size
theorem inX2 : ∀ w ∈ u_ws RX2 TX2 10, w ∈ gw := by
  intro w hw
  obtain ⟨k, hk, rfl⟩ := List.mem_map.mp hw
  have hk := List.mem_range.mp hk
  match k, hk with
  | 0, _ => exact wLY_X2_text
  | 1, _ => exact wLY_X2_outcome
  | 2, _ => exact wLY_X2_next
  | 3, _ => exact wLY_X2_kind
  | 4, _ => exact wLY_X2_first
  | 5, _ => exact wLY_X2_second
  | 6, _ => exact wLY_X2_symbolsFrom
  | 7, _ => exact wLY_X2_position
  | 8, _ => exact wLY_X2_reason
  | 9, _ => exact wLY_X2_cause
theorem inX3 : ∀ w ∈ u_ws RX3 TX3 2, w ∈ gw := by
  intro w hw
  obtain ⟨k, hk, rfl⟩ := List.mem_map.mp hw
  have hk := List.mem_range.mp hk
  match k, hk with
  | 0, _ => exact wLY_X3_symbols
  | 1, _ => exact wLY_X3_size
theorem inX4 : ∀ w ∈ u_ws RX4 TX4 1, w ∈ gw := by
  intro w hw
  obtain ⟨k, hk, rfl⟩ := List.mem_map.mp hw
  have hk := List.mem_range.mp hk
  match k, hk with
  | 0, _ => exact wLY_X4_times
theorem inX5 : ∀ w ∈ u_ws RX5 TX5 2, w ∈ gw := by
  intro w hw
  obtain ⟨k, hk, rfl⟩ := List.mem_map.mp hw
  have hk := List.mem_range.mp hk
  match k, hk with
  | 0, _ => exact wLY_X5_characters
  | 1, _ => exact wLY_X5_length
theorem inX6 : ∀ w ∈ u_ws RX6 TX6 7, w ∈ gw := by
  intro w hw
  obtain ⟨k, hk, rfl⟩ := List.mem_map.mp hw
  have hk := List.mem_range.mp hk
  match k, hk with
  | 0, _ => exact wLY_X6_row
  | 1, _ => exact wLY_X6_history
  | 2, _ => exact wLY_X6_levels
  | 3, _ => exact wLY_X6_tally
  | 4, _ => exact wLY_X6_otherTally
  | 5, _ => exact wLY_X6_player
  | 6, _ => exact wLY_X6_text
theorem inX7 : ∀ w ∈ u_ws RX7 TX7 15, w ∈ gw := by
  intro w hw
  obtain ⟨k, hk, rfl⟩ := List.mem_map.mp hw
  have hk := List.mem_range.mp hk
  match k, hk with
  | 0, _ => exact wLY_X7_s
  | 1, _ => exact wLY_X7_was
  | 2, _ => exact wLY_X7_begun
  | 3, _ => exact wLY_X7_aside
  | 4, _ => exact wLY_X7_states
  | 5, _ => exact wLY_X7_text
  | 6, _ => exact wLY_X7_typed
  | 7, _ => exact wLY_X7_at
  | 8, _ => exact wLY_X7_reason
  | 9, _ => exact wLY_X7_cause
  | 10, _ => exact wLY_X7_number
  | 11, _ => exact wLY_X7_from
  | 12, _ => exact wLY_X7_to
  | 13, _ => exact wLY_X7_often
  | 14, _ => exact wLY_X7_often2
