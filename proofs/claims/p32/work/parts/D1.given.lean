/-! ===== the start: what the tables and the given say of it ===== -/
abbrev gnC : Cond := Jvm.Cond.and given_1 narrow_1
def s_val : Nat → List Int32 := fun k => match k with
  | 0 => [0, 2, 3, 6, 0, 1, 4]
  | 1 => [0, 1, 1, 1, 0, 0, 1]
  | _ => [1, 9, 8, 20, 9, 1, 20]
set_option maxRecDepth 100000 in
theorem g_a0 : Cond.arrayOf (Term.static "OutboxRelay" "SETTING_FIRST" "[I") .int ∈ flatC gnC := (List.mem_of_getElem? (i := 5) (by decide +kernel))
set_option maxRecDepth 100000 in
theorem g_l0 : Cond.eq (Term.length (Term.static "OutboxRelay" "SETTING_FIRST" "[I")) (.int 7) ∈ flatC gnC := (List.mem_of_getElem? (i := 6) (by decide +kernel))
set_option maxRecDepth 100000 in
theorem g_n0 : Cond.not (Cond.eq (.arg 0) (Term.static "OutboxRelay" "SETTING_FIRST" "[I")) ∈ flatC gnC := (List.mem_of_getElem? (i := 470) (by decide +kernel))
set_option maxRecDepth 100000 in
theorem g_x0 : Cond.exactly (Term.static "OutboxRelay" "SETTING_FIRST" "[I") "[I" ∈ flatC gnC := (List.mem_of_getElem? (i := 473) (by decide +kernel))
set_option maxRecDepth 100000 in
theorem g_e00 : Cond.eq (Term.elem (Term.static "OutboxRelay" "SETTING_FIRST" "[I") (.int 0)) (.int 0) ∈ flatC gnC := (List.mem_of_getElem? (i := 7) (by decide +kernel))
set_option maxRecDepth 100000 in
theorem g_e01 : Cond.eq (Term.elem (Term.static "OutboxRelay" "SETTING_FIRST" "[I") (.int 1)) (.int 2) ∈ flatC gnC := (List.mem_of_getElem? (i := 8) (by decide +kernel))
set_option maxRecDepth 100000 in
theorem g_e02 : Cond.eq (Term.elem (Term.static "OutboxRelay" "SETTING_FIRST" "[I") (.int 2)) (.int 3) ∈ flatC gnC := (List.mem_of_getElem? (i := 9) (by decide +kernel))
set_option maxRecDepth 100000 in
theorem g_e03 : Cond.eq (Term.elem (Term.static "OutboxRelay" "SETTING_FIRST" "[I") (.int 3)) (.int 6) ∈ flatC gnC := (List.mem_of_getElem? (i := 10) (by decide +kernel))
set_option maxRecDepth 100000 in
theorem g_e04 : Cond.eq (Term.elem (Term.static "OutboxRelay" "SETTING_FIRST" "[I") (.int 4)) (.int 0) ∈ flatC gnC := (List.mem_of_getElem? (i := 11) (by decide +kernel))
set_option maxRecDepth 100000 in
theorem g_e05 : Cond.eq (Term.elem (Term.static "OutboxRelay" "SETTING_FIRST" "[I") (.int 5)) (.int 1) ∈ flatC gnC := (List.mem_of_getElem? (i := 12) (by decide +kernel))
set_option maxRecDepth 100000 in
theorem g_e06 : Cond.eq (Term.elem (Term.static "OutboxRelay" "SETTING_FIRST" "[I") (.int 6)) (.int 4) ∈ flatC gnC := (List.mem_of_getElem? (i := 13) (by decide +kernel))
set_option maxRecDepth 100000 in
theorem w_s0 : Cond.laysStatic "OutboxRelay" "SETTING_FIRST" "[I" ∈ lw_tbl := List.mem_of_getElem? (i := 34) (by decide +kernel)
set_option maxRecDepth 100000 in
theorem g_a1 : Cond.arrayOf (Term.static "OutboxRelay" "SETTING_LEAST" "[I") .int ∈ flatC gnC := (List.mem_of_getElem? (i := 17) (by decide +kernel))
set_option maxRecDepth 100000 in
theorem g_l1 : Cond.eq (Term.length (Term.static "OutboxRelay" "SETTING_LEAST" "[I")) (.int 7) ∈ flatC gnC := (List.mem_of_getElem? (i := 18) (by decide +kernel))
set_option maxRecDepth 100000 in
theorem g_n1 : Cond.not (Cond.eq (.arg 0) (Term.static "OutboxRelay" "SETTING_LEAST" "[I")) ∈ flatC gnC := (List.mem_of_getElem? (i := 471) (by decide +kernel))
set_option maxRecDepth 100000 in
theorem g_x1 : Cond.exactly (Term.static "OutboxRelay" "SETTING_LEAST" "[I") "[I" ∈ flatC gnC := (List.mem_of_getElem? (i := 474) (by decide +kernel))
set_option maxRecDepth 100000 in
theorem g_e10 : Cond.eq (Term.elem (Term.static "OutboxRelay" "SETTING_LEAST" "[I") (.int 0)) (.int 0) ∈ flatC gnC := (List.mem_of_getElem? (i := 19) (by decide +kernel))
set_option maxRecDepth 100000 in
theorem g_e11 : Cond.eq (Term.elem (Term.static "OutboxRelay" "SETTING_LEAST" "[I") (.int 1)) (.int 1) ∈ flatC gnC := (List.mem_of_getElem? (i := 20) (by decide +kernel))
set_option maxRecDepth 100000 in
theorem g_e12 : Cond.eq (Term.elem (Term.static "OutboxRelay" "SETTING_LEAST" "[I") (.int 2)) (.int 1) ∈ flatC gnC := (List.mem_of_getElem? (i := 21) (by decide +kernel))
set_option maxRecDepth 100000 in
theorem g_e13 : Cond.eq (Term.elem (Term.static "OutboxRelay" "SETTING_LEAST" "[I") (.int 3)) (.int 1) ∈ flatC gnC := (List.mem_of_getElem? (i := 22) (by decide +kernel))
set_option maxRecDepth 100000 in
theorem g_e14 : Cond.eq (Term.elem (Term.static "OutboxRelay" "SETTING_LEAST" "[I") (.int 4)) (.int 0) ∈ flatC gnC := (List.mem_of_getElem? (i := 23) (by decide +kernel))
set_option maxRecDepth 100000 in
theorem g_e15 : Cond.eq (Term.elem (Term.static "OutboxRelay" "SETTING_LEAST" "[I") (.int 5)) (.int 0) ∈ flatC gnC := (List.mem_of_getElem? (i := 24) (by decide +kernel))
set_option maxRecDepth 100000 in
theorem g_e16 : Cond.eq (Term.elem (Term.static "OutboxRelay" "SETTING_LEAST" "[I") (.int 6)) (.int 1) ∈ flatC gnC := (List.mem_of_getElem? (i := 25) (by decide +kernel))
set_option maxRecDepth 100000 in
theorem w_s1 : Cond.laysStatic "OutboxRelay" "SETTING_LEAST" "[I" ∈ lw_tbl := List.mem_of_getElem? (i := 392) (by decide +kernel)
set_option maxRecDepth 100000 in
theorem g_a2 : Cond.arrayOf (Term.static "OutboxRelay" "SETTING_MOST" "[I") .int ∈ flatC gnC := (List.mem_of_getElem? (i := 27) (by decide +kernel))
set_option maxRecDepth 100000 in
theorem g_l2 : Cond.eq (Term.length (Term.static "OutboxRelay" "SETTING_MOST" "[I")) (.int 7) ∈ flatC gnC := (List.mem_of_getElem? (i := 28) (by decide +kernel))
set_option maxRecDepth 100000 in
theorem g_n2 : Cond.not (Cond.eq (.arg 0) (Term.static "OutboxRelay" "SETTING_MOST" "[I")) ∈ flatC gnC := (List.mem_of_getElem? (i := 472) (by decide +kernel))
set_option maxRecDepth 100000 in
theorem g_x2 : Cond.exactly (Term.static "OutboxRelay" "SETTING_MOST" "[I") "[I" ∈ flatC gnC := (List.mem_of_getElem? (i := 475) (by decide +kernel))
set_option maxRecDepth 100000 in
theorem g_e20 : Cond.eq (Term.elem (Term.static "OutboxRelay" "SETTING_MOST" "[I") (.int 0)) (.int 1) ∈ flatC gnC := (List.mem_of_getElem? (i := 29) (by decide +kernel))
set_option maxRecDepth 100000 in
theorem g_e21 : Cond.eq (Term.elem (Term.static "OutboxRelay" "SETTING_MOST" "[I") (.int 1)) (.int 9) ∈ flatC gnC := (List.mem_of_getElem? (i := 30) (by decide +kernel))
set_option maxRecDepth 100000 in
theorem g_e22 : Cond.eq (Term.elem (Term.static "OutboxRelay" "SETTING_MOST" "[I") (.int 2)) (.int 8) ∈ flatC gnC := (List.mem_of_getElem? (i := 31) (by decide +kernel))
set_option maxRecDepth 100000 in
theorem g_e23 : Cond.eq (Term.elem (Term.static "OutboxRelay" "SETTING_MOST" "[I") (.int 3)) (.int 20) ∈ flatC gnC := (List.mem_of_getElem? (i := 32) (by decide +kernel))
set_option maxRecDepth 100000 in
theorem g_e24 : Cond.eq (Term.elem (Term.static "OutboxRelay" "SETTING_MOST" "[I") (.int 4)) (.int 9) ∈ flatC gnC := (List.mem_of_getElem? (i := 33) (by decide +kernel))
set_option maxRecDepth 100000 in
theorem g_e25 : Cond.eq (Term.elem (Term.static "OutboxRelay" "SETTING_MOST" "[I") (.int 5)) (.int 1) ∈ flatC gnC := (List.mem_of_getElem? (i := 34) (by decide +kernel))
set_option maxRecDepth 100000 in
theorem g_e26 : Cond.eq (Term.elem (Term.static "OutboxRelay" "SETTING_MOST" "[I") (.int 6)) (.int 20) ∈ flatC gnC := (List.mem_of_getElem? (i := 35) (by decide +kernel))
set_option maxRecDepth 100000 in
theorem w_s2 : Cond.laysStatic "OutboxRelay" "SETTING_MOST" "[I" ∈ lw_tbl := List.mem_of_getElem? (i := 394) (by decide +kernel)
set_option maxRecDepth 100000 in
theorem w_in : Cond.initialized "OutboxRelay" ∈ lw_tbl := List.mem_of_getElem? (i := 4) (by decide +kernel)
set_option maxRecDepth 100000 in
theorem w_inT : Cond.initialized Bundle.tN ∈ lw_tbl := List.mem_of_getElem? (i := 12) (by decide +kernel)
set_option maxRecDepth 100000 in
theorem w_U : Cond.laysStatic Bundle.tN "UNASSIGNED_STACK" Bundle.steD ∈ lw_tbl := List.mem_of_getElem? (i := 347) (by decide +kernel)
set_option maxRecDepth 100000 in
theorem g_U : Cond.isRef (.static Bundle.tN "UNASSIGNED_STACK" Bundle.steD) ∈ flatC gnC := (List.mem_of_getElem? (i := 14) (by decide +kernel))
set_option maxRecDepth 100000 in
theorem w_S : Cond.laysStatic Bundle.tN "SUPPRESSED_SENTINEL" Bundle.listD ∈ lw_tbl := List.mem_of_getElem? (i := 349) (by decide +kernel)
set_option maxRecDepth 100000 in
theorem g_S : Cond.isRef (.static Bundle.tN "SUPPRESSED_SENTINEL" Bundle.listD) ∈ flatC gnC := (List.mem_of_getElem? (i := 15) (by decide +kernel))
set_option maxRecDepth 100000 in
theorem w_oRX5 : Cond.arrayOver (.object RX5) ∈ lw_tbl := List.mem_of_getElem? (i := 280) (by decide +kernel)
set_option maxRecDepth 100000 in
theorem w_oRX6 : Cond.arrayOver (.object RX6) ∈ lw_tbl := List.mem_of_getElem? (i := 43) (by decide +kernel)
set_option maxRecDepth 100000 in
theorem w_oRX3 : Cond.arrayOver (.object RX3) ∈ lw_tbl := List.mem_of_getElem? (i := 122) (by decide +kernel)
set_option maxRecDepth 100000 in
theorem w_oRX1 : Cond.arrayOver (.object RX1) ∈ lw_tbl := List.mem_of_getElem? (i := 187) (by decide +kernel)
set_option maxRecDepth 100000 in
theorem w_t103 : Cond.stringRef "OutboxRelay" 103 "no such receiver" ∈ lw_tbl := List.mem_of_getElem? (i := 604) (by decide +kernel)
set_option maxRecDepth 100000 in
theorem g_t103 : Cond.exactly (.string "OutboxRelay" 103) "java/lang/String" ∈ flatC gnC := (List.mem_of_getElem? (i := 190) (by decide +kernel))
set_option maxRecDepth 100000 in
theorem w_t105 : Cond.stringRef "OutboxRelay" 105 "topics" ∈ lw_tbl := List.mem_of_getElem? (i := 721) (by decide +kernel)
set_option maxRecDepth 100000 in
theorem g_t105 : Cond.exactly (.string "OutboxRelay" 105) "java/lang/String" ∈ flatC gnC := (List.mem_of_getElem? (i := 395) (by decide +kernel))
set_option maxRecDepth 100000 in
theorem w_t118 : Cond.stringRef "OutboxRelay" 118 "ticks" ∈ lw_tbl := List.mem_of_getElem? (i := 756) (by decide +kernel)
set_option maxRecDepth 100000 in
theorem g_t118 : Cond.exactly (.string "OutboxRelay" 118) "java/lang/String" ∈ flatC gnC := (List.mem_of_getElem? (i := 446) (by decide +kernel))
set_option maxRecDepth 100000 in
theorem w_t132 : Cond.stringRef "OutboxRelay" 132 "no message" ∈ lw_tbl := List.mem_of_getElem? (i := 726) (by decide +kernel)
set_option maxRecDepth 100000 in
theorem g_t132 : Cond.exactly (.string "OutboxRelay" 132) "java/lang/String" ∈ flatC gnC := (List.mem_of_getElem? (i := 418) (by decide +kernel))
set_option maxRecDepth 100000 in
theorem w_t143 : Cond.stringRef "OutboxRelay" 143 "no such setting" ∈ lw_tbl := List.mem_of_getElem? (i := 361) (by decide +kernel)
set_option maxRecDepth 100000 in
theorem g_t143 : Cond.exactly (.string "OutboxRelay" 143) "java/lang/String" ∈ flatC gnC := (List.mem_of_getElem? (i := 84) (by decide +kernel))
set_option maxRecDepth 100000 in
theorem w_t148 : Cond.stringRef "OutboxRelay" 148 "value" ∈ lw_tbl := List.mem_of_getElem? (i := 404) (by decide +kernel)
set_option maxRecDepth 100000 in
theorem g_t148 : Cond.exactly (.string "OutboxRelay" 148) "java/lang/String" ∈ flatC gnC := (List.mem_of_getElem? (i := 103) (by decide +kernel))
set_option maxRecDepth 100000 in
theorem w_t153 : Cond.stringRef "OutboxRelay" 153 "rows are committed" ∈ lw_tbl := List.mem_of_getElem? (i := 420) (by decide +kernel)
set_option maxRecDepth 100000 in
theorem g_t153 : Cond.exactly (.string "OutboxRelay" 153) "java/lang/String" ∈ flatC gnC := (List.mem_of_getElem? (i := 113) (by decide +kernel))
set_option maxRecDepth 100000 in
theorem w_t194 : Cond.stringRef "OutboxRelay" 194 "no such rank" ∈ lw_tbl := List.mem_of_getElem? (i := 591) (by decide +kernel)
set_option maxRecDepth 100000 in
theorem g_t194 : Cond.exactly (.string "OutboxRelay" 194) "java/lang/String" ∈ flatC gnC := (List.mem_of_getElem? (i := 169) (by decide +kernel))
set_option maxRecDepth 100000 in
theorem w_t196 : Cond.stringRef "OutboxRelay" 196 "what" ∈ lw_tbl := List.mem_of_getElem? (i := 467) (by decide +kernel)
set_option maxRecDepth 100000 in
theorem g_t196 : Cond.exactly (.string "OutboxRelay" 196) "java/lang/String" ∈ flatC gnC := (List.mem_of_getElem? (i := 157) (by decide +kernel))
set_option maxRecDepth 100000 in
theorem w_t205 : Cond.stringRef "OutboxRelay" 205 "no such place" ∈ lw_tbl := List.mem_of_getElem? (i := 466) (by decide +kernel)
set_option maxRecDepth 100000 in
theorem g_t205 : Cond.exactly (.string "OutboxRelay" 205) "java/lang/String" ∈ flatC gnC := (List.mem_of_getElem? (i := 137) (by decide +kernel))
set_option maxRecDepth 100000 in
theorem w_t246 : Cond.stringRef "OutboxRelay" 246 "no such place or receiver" ∈ lw_tbl := List.mem_of_getElem? (i := 661) (by decide +kernel)
set_option maxRecDepth 100000 in
theorem g_t246 : Cond.exactly (.string "OutboxRelay" 246) "java/lang/String" ∈ flatC gnC := (List.mem_of_getElem? (i := 240) (by decide +kernel))
set_option maxRecDepth 100000 in
theorem w_t43 : Cond.stringRef "OutboxRelay" 43 "no free place" ∈ lw_tbl := List.mem_of_getElem? (i := 651) (by decide +kernel)
set_option maxRecDepth 100000 in
theorem g_t43 : Cond.exactly (.string "OutboxRelay" 43) "java/lang/String" ∈ flatC gnC := (List.mem_of_getElem? (i := 216) (by decide +kernel))
set_option maxRecDepth 100000 in
theorem w_t60 : Cond.stringRef "OutboxRelay" 60 "no transaction" ∈ lw_tbl := List.mem_of_getElem? (i := 675) (by decide +kernel)
set_option maxRecDepth 100000 in
theorem g_t60 : Cond.exactly (.string "OutboxRelay" 60) "java/lang/String" ∈ flatC gnC := (List.mem_of_getElem? (i := 277) (by decide +kernel))
set_option maxRecDepth 100000 in
theorem w_t69 : Cond.stringRef "OutboxRelay" 69 "topic or value" ∈ lw_tbl := List.mem_of_getElem? (i := 676) (by decide +kernel)
set_option maxRecDepth 100000 in
theorem g_t69 : Cond.exactly (.string "OutboxRelay" 69) "java/lang/String" ∈ flatC gnC := (List.mem_of_getElem? (i := 304) (by decide +kernel))
set_option maxRecDepth 100000 in
theorem w_t75 : Cond.stringRef "OutboxRelay" 75 "transaction is full" ∈ lw_tbl := List.mem_of_getElem? (i := 681) (by decide +kernel)
set_option maxRecDepth 100000 in
theorem g_t75 : Cond.exactly (.string "OutboxRelay" 75) "java/lang/String" ∈ flatC gnC := (List.mem_of_getElem? (i := 332) (by decide +kernel))
set_option maxRecDepth 100000 in
theorem w_t84 : Cond.stringRef "OutboxRelay" 84 "too many rows" ∈ lw_tbl := List.mem_of_getElem? (i := 699) (by decide +kernel)
set_option maxRecDepth 100000 in
theorem g_t84 : Cond.exactly (.string "OutboxRelay" 84) "java/lang/String" ∈ flatC gnC := (List.mem_of_getElem? (i := 366) (by decide +kernel))
