/-! ===== the start: what the tables and the given say of it ===== -/
abbrev gnC : Cond := Jvm.Cond.and given_1 narrow_1
def s_val : Nat → List Int32 := fun k => match k with
  | 0 => [0, 2, 3, 6, 0, 1, 4]
  | 1 => [0, 1, 1, 1, 0, 0, 1]
  | _ => [1, 9, 8, 20, 9, 1, 20]
set_option maxRecDepth 100000 in
theorem g_a0 : Cond.arrayOf (Term.static "OutboxRelay" "SETTING_FIRST" "[I") .int ∈ flatC gnC := (List.mem_of_getElem? (i := 5) (by decide +kernel))
set_option maxRecDepth 100000 in
theorem g_l0 : Cond.eq (Term.length (Term.static "OutboxRelay" "SETTING_FIRST" "[I")) (.int 7) ∈ flatC gnC := (List.mem_of_getElem? (i := 6) (by decide +kernel))
set_option maxRecDepth 100000 in
theorem g_n0 : Cond.not (Cond.eq (.arg 0) (Term.static "OutboxRelay" "SETTING_FIRST" "[I")) ∈ flatC gnC := (List.mem_of_getElem? (i := 704) (by decide +kernel))
set_option maxRecDepth 100000 in
theorem g_x0 : Cond.exactly (Term.static "OutboxRelay" "SETTING_FIRST" "[I") "[I" ∈ flatC gnC := (List.mem_of_getElem? (i := 707) (by decide +kernel))
set_option maxRecDepth 100000 in
theorem g_e00 : Cond.eq (Term.elem (Term.static "OutboxRelay" "SETTING_FIRST" "[I") (.int 0)) (.int 0) ∈ flatC gnC := (List.mem_of_getElem? (i := 7) (by decide +kernel))
set_option maxRecDepth 100000 in
theorem g_e01 : Cond.eq (Term.elem (Term.static "OutboxRelay" "SETTING_FIRST" "[I") (.int 1)) (.int 2) ∈ flatC gnC := (List.mem_of_getElem? (i := 8) (by decide +kernel))
set_option maxRecDepth 100000 in
theorem g_e02 : Cond.eq (Term.elem (Term.static "OutboxRelay" "SETTING_FIRST" "[I") (.int 2)) (.int 3) ∈ flatC gnC := (List.mem_of_getElem? (i := 9) (by decide +kernel))
set_option maxRecDepth 100000 in
theorem g_e03 : Cond.eq (Term.elem (Term.static "OutboxRelay" "SETTING_FIRST" "[I") (.int 3)) (.int 6) ∈ flatC gnC := (List.mem_of_getElem? (i := 10) (by decide +kernel))
set_option maxRecDepth 100000 in
theorem g_e04 : Cond.eq (Term.elem (Term.static "OutboxRelay" "SETTING_FIRST" "[I") (.int 4)) (.int 0) ∈ flatC gnC := (List.mem_of_getElem? (i := 11) (by decide +kernel))
set_option maxRecDepth 100000 in
theorem g_e05 : Cond.eq (Term.elem (Term.static "OutboxRelay" "SETTING_FIRST" "[I") (.int 5)) (.int 1) ∈ flatC gnC := (List.mem_of_getElem? (i := 12) (by decide +kernel))
set_option maxRecDepth 100000 in
theorem g_e06 : Cond.eq (Term.elem (Term.static "OutboxRelay" "SETTING_FIRST" "[I") (.int 6)) (.int 4) ∈ flatC gnC := (List.mem_of_getElem? (i := 13) (by decide +kernel))
set_option maxRecDepth 100000 in
theorem w_s0 : Cond.laysStatic "OutboxRelay" "SETTING_FIRST" "[I" ∈ lw_tbl := List.mem_of_getElem? (i := 108) (by decide +kernel)
set_option maxRecDepth 100000 in
theorem g_a1 : Cond.arrayOf (Term.static "OutboxRelay" "SETTING_LEAST" "[I") .int ∈ flatC gnC := (List.mem_of_getElem? (i := 17) (by decide +kernel))
set_option maxRecDepth 100000 in
theorem g_l1 : Cond.eq (Term.length (Term.static "OutboxRelay" "SETTING_LEAST" "[I")) (.int 7) ∈ flatC gnC := (List.mem_of_getElem? (i := 18) (by decide +kernel))
set_option maxRecDepth 100000 in
theorem g_n1 : Cond.not (Cond.eq (.arg 0) (Term.static "OutboxRelay" "SETTING_LEAST" "[I")) ∈ flatC gnC := (List.mem_of_getElem? (i := 705) (by decide +kernel))
set_option maxRecDepth 100000 in
theorem g_x1 : Cond.exactly (Term.static "OutboxRelay" "SETTING_LEAST" "[I") "[I" ∈ flatC gnC := (List.mem_of_getElem? (i := 708) (by decide +kernel))
set_option maxRecDepth 100000 in
theorem g_e10 : Cond.eq (Term.elem (Term.static "OutboxRelay" "SETTING_LEAST" "[I") (.int 0)) (.int 0) ∈ flatC gnC := (List.mem_of_getElem? (i := 19) (by decide +kernel))
set_option maxRecDepth 100000 in
theorem g_e11 : Cond.eq (Term.elem (Term.static "OutboxRelay" "SETTING_LEAST" "[I") (.int 1)) (.int 1) ∈ flatC gnC := (List.mem_of_getElem? (i := 20) (by decide +kernel))
set_option maxRecDepth 100000 in
theorem g_e12 : Cond.eq (Term.elem (Term.static "OutboxRelay" "SETTING_LEAST" "[I") (.int 2)) (.int 1) ∈ flatC gnC := (List.mem_of_getElem? (i := 21) (by decide +kernel))
set_option maxRecDepth 100000 in
theorem g_e13 : Cond.eq (Term.elem (Term.static "OutboxRelay" "SETTING_LEAST" "[I") (.int 3)) (.int 1) ∈ flatC gnC := (List.mem_of_getElem? (i := 22) (by decide +kernel))
set_option maxRecDepth 100000 in
theorem g_e14 : Cond.eq (Term.elem (Term.static "OutboxRelay" "SETTING_LEAST" "[I") (.int 4)) (.int 0) ∈ flatC gnC := (List.mem_of_getElem? (i := 23) (by decide +kernel))
set_option maxRecDepth 100000 in
theorem g_e15 : Cond.eq (Term.elem (Term.static "OutboxRelay" "SETTING_LEAST" "[I") (.int 5)) (.int 0) ∈ flatC gnC := (List.mem_of_getElem? (i := 24) (by decide +kernel))
set_option maxRecDepth 100000 in
theorem g_e16 : Cond.eq (Term.elem (Term.static "OutboxRelay" "SETTING_LEAST" "[I") (.int 6)) (.int 1) ∈ flatC gnC := (List.mem_of_getElem? (i := 25) (by decide +kernel))
set_option maxRecDepth 100000 in
theorem w_s1 : Cond.laysStatic "OutboxRelay" "SETTING_LEAST" "[I" ∈ lw_tbl := List.mem_of_getElem? (i := 889) (by decide +kernel)
set_option maxRecDepth 100000 in
theorem g_a2 : Cond.arrayOf (Term.static "OutboxRelay" "SETTING_MOST" "[I") .int ∈ flatC gnC := (List.mem_of_getElem? (i := 27) (by decide +kernel))
set_option maxRecDepth 100000 in
theorem g_l2 : Cond.eq (Term.length (Term.static "OutboxRelay" "SETTING_MOST" "[I")) (.int 7) ∈ flatC gnC := (List.mem_of_getElem? (i := 28) (by decide +kernel))
set_option maxRecDepth 100000 in
theorem g_n2 : Cond.not (Cond.eq (.arg 0) (Term.static "OutboxRelay" "SETTING_MOST" "[I")) ∈ flatC gnC := (List.mem_of_getElem? (i := 706) (by decide +kernel))
set_option maxRecDepth 100000 in
theorem g_x2 : Cond.exactly (Term.static "OutboxRelay" "SETTING_MOST" "[I") "[I" ∈ flatC gnC := (List.mem_of_getElem? (i := 709) (by decide +kernel))
set_option maxRecDepth 100000 in
theorem g_e20 : Cond.eq (Term.elem (Term.static "OutboxRelay" "SETTING_MOST" "[I") (.int 0)) (.int 1) ∈ flatC gnC := (List.mem_of_getElem? (i := 29) (by decide +kernel))
set_option maxRecDepth 100000 in
theorem g_e21 : Cond.eq (Term.elem (Term.static "OutboxRelay" "SETTING_MOST" "[I") (.int 1)) (.int 9) ∈ flatC gnC := (List.mem_of_getElem? (i := 30) (by decide +kernel))
set_option maxRecDepth 100000 in
theorem g_e22 : Cond.eq (Term.elem (Term.static "OutboxRelay" "SETTING_MOST" "[I") (.int 2)) (.int 8) ∈ flatC gnC := (List.mem_of_getElem? (i := 31) (by decide +kernel))
set_option maxRecDepth 100000 in
theorem g_e23 : Cond.eq (Term.elem (Term.static "OutboxRelay" "SETTING_MOST" "[I") (.int 3)) (.int 20) ∈ flatC gnC := (List.mem_of_getElem? (i := 32) (by decide +kernel))
set_option maxRecDepth 100000 in
theorem g_e24 : Cond.eq (Term.elem (Term.static "OutboxRelay" "SETTING_MOST" "[I") (.int 4)) (.int 9) ∈ flatC gnC := (List.mem_of_getElem? (i := 33) (by decide +kernel))
set_option maxRecDepth 100000 in
theorem g_e25 : Cond.eq (Term.elem (Term.static "OutboxRelay" "SETTING_MOST" "[I") (.int 5)) (.int 1) ∈ flatC gnC := (List.mem_of_getElem? (i := 34) (by decide +kernel))
set_option maxRecDepth 100000 in
theorem g_e26 : Cond.eq (Term.elem (Term.static "OutboxRelay" "SETTING_MOST" "[I") (.int 6)) (.int 20) ∈ flatC gnC := (List.mem_of_getElem? (i := 35) (by decide +kernel))
set_option maxRecDepth 100000 in
theorem w_s2 : Cond.laysStatic "OutboxRelay" "SETTING_MOST" "[I" ∈ lw_tbl := List.mem_of_getElem? (i := 891) (by decide +kernel)
set_option maxRecDepth 100000 in
theorem w_in : Cond.initialized "OutboxRelay" ∈ lw_tbl := List.mem_of_getElem? (i := 75) (by decide +kernel)
set_option maxRecDepth 100000 in
theorem w_inT : Cond.initialized Bundle.tN ∈ lw_tbl := List.mem_of_getElem? (i := 84) (by decide +kernel)
set_option maxRecDepth 100000 in
theorem w_U : Cond.laysStatic Bundle.tN "UNASSIGNED_STACK" Bundle.steD ∈ lw_tbl := List.mem_of_getElem? (i := 611) (by decide +kernel)
set_option maxRecDepth 100000 in
theorem g_U : Cond.isRef (.static Bundle.tN "UNASSIGNED_STACK" Bundle.steD) ∈ flatC gnC := (List.mem_of_getElem? (i := 14) (by decide +kernel))
set_option maxRecDepth 100000 in
theorem w_S : Cond.laysStatic Bundle.tN "SUPPRESSED_SENTINEL" Bundle.listD ∈ lw_tbl := List.mem_of_getElem? (i := 613) (by decide +kernel)
set_option maxRecDepth 100000 in
theorem g_S : Cond.isRef (.static Bundle.tN "SUPPRESSED_SENTINEL" Bundle.listD) ∈ flatC gnC := (List.mem_of_getElem? (i := 15) (by decide +kernel))
set_option maxRecDepth 100000 in
theorem w_oRX5 : Cond.arrayOver (.object RX5) ∈ lw_tbl := List.mem_of_getElem? (i := 359) (by decide +kernel)
set_option maxRecDepth 100000 in
theorem w_oRX6 : Cond.arrayOver (.object RX6) ∈ lw_tbl := List.mem_of_getElem? (i := 117) (by decide +kernel)
set_option maxRecDepth 100000 in
theorem w_oRX3 : Cond.arrayOver (.object RX3) ∈ lw_tbl := List.mem_of_getElem? (i := 196) (by decide +kernel)
set_option maxRecDepth 100000 in
theorem w_oRX1 : Cond.arrayOver (.object RX1) ∈ lw_tbl := List.mem_of_getElem? (i := 263) (by decide +kernel)
set_option maxRecDepth 100000 in
theorem g_xISxIA : Cond.not (.castable xIS xIA) ∈ flatC gnC := (List.mem_of_getElem? (i := 67) (by decide +kernel))
set_option maxRecDepth 100000 in
theorem g_xISxIO : Cond.not (.castable xIS xIO) ∈ flatC gnC := (List.mem_of_getElem? (i := 56) (by decide +kernel))
set_option maxRecDepth 100000 in
theorem g_xIAxIS : Cond.not (.castable xIA xIS) ∈ flatC gnC := (List.mem_of_getElem? (i := 46) (by decide +kernel))
set_option maxRecDepth 100000 in
theorem g_xIAxIO : Cond.not (.castable xIA xIO) ∈ flatC gnC := (List.mem_of_getElem? (i := 57) (by decide +kernel))
set_option maxRecDepth 100000 in
theorem g_xIOxIS : Cond.not (.castable xIO xIS) ∈ flatC gnC := (List.mem_of_getElem? (i := 45) (by decide +kernel))
set_option maxRecDepth 100000 in
theorem g_xIOxIA : Cond.not (.castable xIO xIA) ∈ flatC gnC := (List.mem_of_getElem? (i := 68) (by decide +kernel))
set_option maxRecDepth 100000 in
theorem w_t103 : Cond.stringRef "OutboxRelay" 103 "no such receiver" ∈ lw_tbl := List.mem_of_getElem? (i := 855) (by decide +kernel)
set_option maxRecDepth 100000 in
theorem g_t103 : Cond.exactly (.string "OutboxRelay" 103) "java/lang/String" ∈ flatC gnC := (List.mem_of_getElem? (i := 237) (by decide +kernel))
set_option maxRecDepth 100000 in
theorem w_t105 : Cond.stringRef "OutboxRelay" 105 "topics" ∈ lw_tbl := List.mem_of_getElem? (i := 856) (by decide +kernel)
set_option maxRecDepth 100000 in
theorem g_t105 : Cond.exactly (.string "OutboxRelay" 105) "java/lang/String" ∈ flatC gnC := (List.mem_of_getElem? (i := 263) (by decide +kernel))
set_option maxRecDepth 100000 in
theorem w_t118 : Cond.stringRef "OutboxRelay" 118 "ticks" ∈ lw_tbl := List.mem_of_getElem? (i := 867) (by decide +kernel)
set_option maxRecDepth 100000 in
theorem g_t118 : Cond.exactly (.string "OutboxRelay" 118) "java/lang/String" ∈ flatC gnC := (List.mem_of_getElem? (i := 280) (by decide +kernel))
set_option maxRecDepth 100000 in
theorem w_t132 : Cond.stringRef "OutboxRelay" 132 "no message" ∈ lw_tbl := List.mem_of_getElem? (i := 875) (by decide +kernel)
set_option maxRecDepth 100000 in
theorem g_t132 : Cond.exactly (.string "OutboxRelay" 132) "java/lang/String" ∈ flatC gnC := (List.mem_of_getElem? (i := 297) (by decide +kernel))
set_option maxRecDepth 100000 in
theorem w_t143 : Cond.stringRef "OutboxRelay" 143 "no such setting" ∈ lw_tbl := List.mem_of_getElem? (i := 884) (by decide +kernel)
set_option maxRecDepth 100000 in
theorem g_t143 : Cond.exactly (.string "OutboxRelay" 143) "java/lang/String" ∈ flatC gnC := (List.mem_of_getElem? (i := 320) (by decide +kernel))
set_option maxRecDepth 100000 in
theorem w_t148 : Cond.stringRef "OutboxRelay" 148 "value" ∈ lw_tbl := List.mem_of_getElem? (i := 892) (by decide +kernel)
set_option maxRecDepth 100000 in
theorem g_t148 : Cond.exactly (.string "OutboxRelay" 148) "java/lang/String" ∈ flatC gnC := (List.mem_of_getElem? (i := 349) (by decide +kernel))
set_option maxRecDepth 100000 in
theorem w_t153 : Cond.stringRef "OutboxRelay" 153 "rows are committed" ∈ lw_tbl := List.mem_of_getElem? (i := 893) (by decide +kernel)
set_option maxRecDepth 100000 in
theorem g_t153 : Cond.exactly (.string "OutboxRelay" 153) "java/lang/String" ∈ flatC gnC := (List.mem_of_getElem? (i := 369) (by decide +kernel))
set_option maxRecDepth 100000 in
theorem w_t159 : Cond.stringRef "OutboxRelay" 159 "code" ∈ lw_tbl := List.mem_of_getElem? (i := 901) (by decide +kernel)
set_option maxRecDepth 100000 in
theorem g_t159 : Cond.exactly (.string "OutboxRelay" 159) "java/lang/String" ∈ flatC gnC := (List.mem_of_getElem? (i := 403) (by decide +kernel))
set_option maxRecDepth 100000 in
theorem w_t164 : Cond.stringRef "OutboxRelay" 164 "buffer is full" ∈ lw_tbl := List.mem_of_getElem? (i := 902) (by decide +kernel)
set_option maxRecDepth 100000 in
theorem g_t164 : Cond.exactly (.string "OutboxRelay" 164) "java/lang/String" ∈ flatC gnC := (List.mem_of_getElem? (i := 424) (by decide +kernel))
set_option maxRecDepth 100000 in
theorem w_t176 : Cond.stringRef "OutboxRelay" 176 "buffer" ∈ lw_tbl := List.mem_of_getElem? (i := 914) (by decide +kernel)
set_option maxRecDepth 100000 in
theorem g_t176 : Cond.exactly (.string "OutboxRelay" 176) "java/lang/String" ∈ flatC gnC := (List.mem_of_getElem? (i := 456) (by decide +kernel))
set_option maxRecDepth 100000 in
theorem w_t190 : Cond.stringRef "OutboxRelay" 190 "no snapshot" ∈ lw_tbl := List.mem_of_getElem? (i := 945) (by decide +kernel)
set_option maxRecDepth 100000 in
theorem g_t190 : Cond.exactly (.string "OutboxRelay" 190) "java/lang/String" ∈ flatC gnC := (List.mem_of_getElem? (i := 481) (by decide +kernel))
set_option maxRecDepth 100000 in
theorem w_t192 : Cond.stringRef "OutboxRelay" 192 "no saved state" ∈ lw_tbl := List.mem_of_getElem? (i := 953) (by decide +kernel)
set_option maxRecDepth 100000 in
theorem g_t192 : Cond.exactly (.string "OutboxRelay" 192) "java/lang/String" ∈ flatC gnC := (List.mem_of_getElem? (i := 512) (by decide +kernel))
set_option maxRecDepth 100000 in
theorem w_t194 : Cond.stringRef "OutboxRelay" 194 "no such rank" ∈ lw_tbl := List.mem_of_getElem? (i := 961) (by decide +kernel)
set_option maxRecDepth 100000 in
theorem g_t194 : Cond.exactly (.string "OutboxRelay" 194) "java/lang/String" ∈ flatC gnC := (List.mem_of_getElem? (i := 547) (by decide +kernel))
set_option maxRecDepth 100000 in
theorem w_t196 : Cond.stringRef "OutboxRelay" 196 "what" ∈ lw_tbl := List.mem_of_getElem? (i := 625) (by decide +kernel)
set_option maxRecDepth 100000 in
theorem g_t196 : Cond.exactly (.string "OutboxRelay" 196) "java/lang/String" ∈ flatC gnC := (List.mem_of_getElem? (i := 121) (by decide +kernel))
set_option maxRecDepth 100000 in
theorem w_t205 : Cond.stringRef "OutboxRelay" 205 "no such place" ∈ lw_tbl := List.mem_of_getElem? (i := 969) (by decide +kernel)
set_option maxRecDepth 100000 in
theorem g_t205 : Cond.exactly (.string "OutboxRelay" 205) "java/lang/String" ∈ flatC gnC := (List.mem_of_getElem? (i := 581) (by decide +kernel))
set_option maxRecDepth 100000 in
theorem w_t240 : Cond.stringRef "OutboxRelay" 240 "ticks or what" ∈ lw_tbl := List.mem_of_getElem? (i := 1002) (by decide +kernel)
set_option maxRecDepth 100000 in
theorem g_t240 : Cond.exactly (.string "OutboxRelay" 240) "java/lang/String" ∈ flatC gnC := (List.mem_of_getElem? (i := 617) (by decide +kernel))
set_option maxRecDepth 100000 in
theorem w_t246 : Cond.stringRef "OutboxRelay" 246 "no such place or receiver" ∈ lw_tbl := List.mem_of_getElem? (i := 1010) (by decide +kernel)
set_option maxRecDepth 100000 in
theorem g_t246 : Cond.exactly (.string "OutboxRelay" 246) "java/lang/String" ∈ flatC gnC := (List.mem_of_getElem? (i := 654) (by decide +kernel))
set_option maxRecDepth 100000 in
theorem w_t43 : Cond.stringRef "OutboxRelay" 43 "no free place" ∈ lw_tbl := List.mem_of_getElem? (i := 764) (by decide +kernel)
set_option maxRecDepth 100000 in
theorem g_t43 : Cond.exactly (.string "OutboxRelay" 43) "java/lang/String" ∈ flatC gnC := (List.mem_of_getElem? (i := 129) (by decide +kernel))
set_option maxRecDepth 100000 in
theorem w_t60 : Cond.stringRef "OutboxRelay" 60 "no transaction" ∈ lw_tbl := List.mem_of_getElem? (i := 794) (by decide +kernel)
set_option maxRecDepth 100000 in
theorem g_t60 : Cond.exactly (.string "OutboxRelay" 60) "java/lang/String" ∈ flatC gnC := (List.mem_of_getElem? (i := 147) (by decide +kernel))
set_option maxRecDepth 100000 in
theorem w_t69 : Cond.stringRef "OutboxRelay" 69 "topic or value" ∈ lw_tbl := List.mem_of_getElem? (i := 801) (by decide +kernel)
set_option maxRecDepth 100000 in
theorem g_t69 : Cond.exactly (.string "OutboxRelay" 69) "java/lang/String" ∈ flatC gnC := (List.mem_of_getElem? (i := 167) (by decide +kernel))
set_option maxRecDepth 100000 in
theorem w_t75 : Cond.stringRef "OutboxRelay" 75 "transaction is full" ∈ lw_tbl := List.mem_of_getElem? (i := 806) (by decide +kernel)
set_option maxRecDepth 100000 in
theorem g_t75 : Cond.exactly (.string "OutboxRelay" 75) "java/lang/String" ∈ flatC gnC := (List.mem_of_getElem? (i := 188) (by decide +kernel))
set_option maxRecDepth 100000 in
theorem w_t84 : Cond.stringRef "OutboxRelay" 84 "too many rows" ∈ lw_tbl := List.mem_of_getElem? (i := 827) (by decide +kernel)
set_option maxRecDepth 100000 in
theorem g_t84 : Cond.exactly (.string "OutboxRelay" 84) "java/lang/String" ∈ flatC gnC := (List.mem_of_getElem? (i := 215) (by decide +kernel))
