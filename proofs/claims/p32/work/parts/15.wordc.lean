set_option maxRecDepth 100000 in
theorem mi_L_cell : MI yL_cell cL_cell 2 (some .int) 2 := ⟨in_at 3 (by decide +kernel) (by decide +kernel), in_at 578 (by rfl) (by decide +kernel), by decide, by decide, by decide +kernel⟩
set_option maxRecDepth 100000 in
theorem mi_L_low : MI yL_low cL_low 2 (some .int) 2 := ⟨in_at 3 (by decide +kernel) (by decide +kernel), in_at 582 (by rfl) (by decide +kernel), by decide, by decide, by decide +kernel⟩
set_option maxRecDepth 100000 in
theorem mi_L_greater : MI yL_greater cL_greater 2 (some .int) 2 := ⟨in_at 3 (by decide +kernel) (by decide +kernel), in_at 748 (by rfl) (by decide +kernel), by decide, by decide, by decide +kernel⟩
set_option maxRecDepth 100000 in
theorem mi_L_rows : MI yL_rows cL_rows 12 (some .boolean) 1 := ⟨in_at 3 (by decide +kernel) (by decide +kernel), in_at 586 (by rfl) (by decide +kernel), by decide, by decide, by decide +kernel⟩
set_option maxRecDepth 100000 in
theorem mi_L_in : MI yL_in cL_in 3 (some .boolean) 3 := ⟨in_at 3 (by decide +kernel) (by decide +kernel), in_at 628 (by rfl) (by decide +kernel), by decide, by decide, by decide +kernel⟩
set_option maxRecDepth 100000 in
theorem mi_L_ways : MI yL_ways cL_ways 8 (some .boolean) 1 := ⟨in_at 3 (by decide +kernel) (by decide +kernel), in_at 631 (by rfl) (by decide +kernel), by decide, by decide, by decide +kernel⟩
set_option maxRecDepth 100000 in
theorem mi_L_ticks : MI yL_ticks cL_ticks 16 (some .boolean) 1 := ⟨in_at 3 (by decide +kernel) (by decide +kernel), in_at 745 (by rfl) (by decide +kernel), by decide, by decide, by decide +kernel⟩
set_option maxRecDepth 100000 in
theorem mi_L_sweeps : MI yL_sweeps cL_sweeps 7 (some .boolean) 1 := ⟨in_at 3 (by decide +kernel) (by decide +kernel), in_at 730 (by rfl) (by decide +kernel), by decide, by decide, by decide +kernel⟩
set_option maxRecDepth 100000 in
theorem mi_L_act : MI yL_act cL_act 10 (some .boolean) 3 := ⟨in_at 3 (by decide +kernel) (by decide +kernel), in_at 642 (by rfl) (by decide +kernel), by decide, by decide, by decide +kernel⟩
