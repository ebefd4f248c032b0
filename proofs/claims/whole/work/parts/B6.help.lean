/-! ===== the law's helpers: what is thrown becomes a number ===== -/
abbrev hh_begin : List (Nat × Nat × Nat × Nat) := [(0, 8, 11, 13)]
set_option maxRecDepth 100000 in
theorem mh_begin : MIH yL_begin cL_begin 3 (some .int) hh_begin 2 := ⟨in_at 74 (by decide +kernel) (by decide +kernel), in_at 745 (by decide +kernel) (by decide +kernel), by decide, by decide, by decide +kernel⟩
set_option maxRecDepth 100000 in
theorem sh_begin : Cond.static yL_begin ∈ wAll := in_at 744 (by decide +kernel) (by decide +kernel)
abbrev hh_write : List (Nat × Nat × Nat × Nat) := [(0, 12, 15, 19), (0, 12, 19, 21), (0, 12, 23, 13)]
set_option maxRecDepth 100000 in
theorem mh_write : MIH yL_write cL_write 6 (some .int) hh_write 5 := ⟨in_at 74 (by decide +kernel) (by decide +kernel), in_at 777 (by decide +kernel) (by decide +kernel), by decide, by decide, by decide +kernel⟩
set_option maxRecDepth 100000 in
theorem sh_write : Cond.static yL_write ∈ wAll := in_at 776 (by decide +kernel) (by decide +kernel)
abbrev hh_commit : List (Nat × Nat × Nat × Nat) := [(0, 9, 12, 19), (0, 9, 15, 13)]
set_option maxRecDepth 100000 in
theorem mh_commit : MIH yL_commit cL_commit 4 (some .int) hh_commit 3 := ⟨in_at 74 (by decide +kernel) (by decide +kernel), in_at 818 (by decide +kernel) (by decide +kernel), by decide, by decide, by decide +kernel⟩
set_option maxRecDepth 100000 in
theorem sh_commit : Cond.static yL_commit ∈ wAll := in_at 817 (by decide +kernel) (by decide +kernel)
abbrev hh_drop : List (Nat × Nat × Nat × Nat) := [(0, 9, 12, 19)]
set_option maxRecDepth 100000 in
theorem mh_drop : MIH yL_drop cL_drop 4 (some .int) hh_drop 3 := ⟨in_at 74 (by decide +kernel) (by decide +kernel), in_at 839 (by decide +kernel) (by decide +kernel), by decide, by decide, by decide +kernel⟩
set_option maxRecDepth 100000 in
theorem sh_drop : Cond.static yL_drop ∈ wAll := in_at 838 (by decide +kernel) (by decide +kernel)
abbrev hh_want : List (Nat × Nat × Nat × Nat) := [(0, 10, 13, 19), (0, 10, 17, 21)]
set_option maxRecDepth 100000 in
theorem mh_want : MIH yL_want cL_want 5 (some .int) hh_want 4 := ⟨in_at 74 (by decide +kernel) (by decide +kernel), in_at 850 (by decide +kernel) (by decide +kernel), by decide, by decide, by decide +kernel⟩
set_option maxRecDepth 100000 in
theorem sh_want : Cond.static yL_want ∈ wAll := in_at 849 (by decide +kernel) (by decide +kernel)
abbrev hh_pass : List (Nat × Nat × Nat × Nat) := [(0, 9, 12, 21)]
set_option maxRecDepth 100000 in
theorem mh_pass : MIH yL_pass cL_pass 4 (some .int) hh_pass 3 := ⟨in_at 74 (by decide +kernel) (by decide +kernel), in_at 859 (by decide +kernel) (by decide +kernel), by decide, by decide, by decide +kernel⟩
set_option maxRecDepth 100000 in
theorem sh_pass : Cond.static yL_pass ∈ wAll := in_at 858 (by decide +kernel) (by decide +kernel)
abbrev hh_lose : List (Nat × Nat × Nat × Nat) := [(0, 8, 11, 13)]
set_option maxRecDepth 100000 in
theorem mh_lose : MIH yL_lose cL_lose 3 (some .int) hh_lose 2 := ⟨in_at 74 (by decide +kernel) (by decide +kernel), in_at 870 (by decide +kernel) (by decide +kernel), by decide, by decide, by decide +kernel⟩
set_option maxRecDepth 100000 in
theorem sh_lose : Cond.static yL_lose ∈ wAll := in_at 869 (by decide +kernel) (by decide +kernel)
abbrev hh_set : List (Nat × Nat × Nat × Nat) := [(0, 10, 13, 19), (0, 10, 17, 21), (0, 10, 21, 13)]
set_option maxRecDepth 100000 in
theorem mh_set : MIH yL_set cL_set 5 (some .int) hh_set 4 := ⟨in_at 74 (by decide +kernel) (by decide +kernel), in_at 879 (by decide +kernel) (by decide +kernel), by decide, by decide, by decide +kernel⟩
set_option maxRecDepth 100000 in
theorem sh_set : Cond.static yL_set ∈ wAll := in_at 878 (by decide +kernel) (by decide +kernel)
abbrev hh_append : List (Nat × Nat × Nat × Nat) := [(0, 9, 12, 21), (0, 9, 15, 13)]
set_option maxRecDepth 100000 in
theorem mh_append : MIH yL_append cL_append 4 (some .int) hh_append 3 := ⟨in_at 74 (by decide +kernel) (by decide +kernel), in_at 896 (by decide +kernel) (by decide +kernel), by decide, by decide, by decide +kernel⟩
set_option maxRecDepth 100000 in
theorem sh_append : Cond.static yL_append ∈ wAll := in_at 895 (by decide +kernel) (by decide +kernel)
abbrev hh_obey : List (Nat × Nat × Nat × Nat) := [(0, 8, 11, 21)]
set_option maxRecDepth 100000 in
theorem mh_obey : MIH yL_obey cL_obey 3 (some .int) hh_obey 2 := ⟨in_at 74 (by decide +kernel) (by decide +kernel), in_at 905 (by decide +kernel) (by decide +kernel), by decide, by decide, by decide +kernel⟩
set_option maxRecDepth 100000 in
theorem sh_obey : Cond.static yL_obey ∈ wAll := in_at 904 (by decide +kernel) (by decide +kernel)
abbrev hh_goBack : List (Nat × Nat × Nat × Nat) := [(0, 8, 11, 13)]
set_option maxRecDepth 100000 in
theorem mh_goBack : MIH yL_goBack cL_goBack 3 (some .int) hh_goBack 2 := ⟨in_at 74 (by decide +kernel) (by decide +kernel), in_at 940 (by decide +kernel) (by decide +kernel), by decide, by decide, by decide +kernel⟩
set_option maxRecDepth 100000 in
theorem sh_goBack : Cond.static yL_goBack ∈ wAll := in_at 939 (by decide +kernel) (by decide +kernel)
abbrev hh_undo : List (Nat × Nat × Nat × Nat) := [(0, 8, 11, 13)]
set_option maxRecDepth 100000 in
theorem mh_undo : MIH yL_undo cL_undo 3 (some .int) hh_undo 2 := ⟨in_at 74 (by decide +kernel) (by decide +kernel), in_at 948 (by decide +kernel) (by decide +kernel), by decide, by decide, by decide +kernel⟩
set_option maxRecDepth 100000 in
theorem sh_undo : Cond.static yL_undo ∈ wAll := in_at 947 (by decide +kernel) (by decide +kernel)
abbrev hh_row : List (Nat × Nat × Nat × Nat) := [(0, 10, 13, 19), (0, 10, 17, 21)]
set_option maxRecDepth 100000 in
theorem mh_row : MIH yL_row cL_row 5 (some .int) hh_row 4 := ⟨in_at 74 (by decide +kernel) (by decide +kernel), in_at 956 (by decide +kernel) (by decide +kernel), by decide, by decide, by decide +kernel⟩
set_option maxRecDepth 100000 in
theorem sh_row : Cond.static yL_row ∈ wAll := in_at 955 (by decide +kernel) (by decide +kernel)
abbrev hh_transaction : List (Nat × Nat × Nat × Nat) := [(0, 10, 13, 19), (0, 10, 17, 21)]
set_option maxRecDepth 100000 in
theorem mh_transaction : MIH yL_transaction cL_transaction 5 (some .int) hh_transaction 4 := ⟨in_at 74 (by decide +kernel) (by decide +kernel), in_at 964 (by decide +kernel) (by decide +kernel), by decide, by decide, by decide +kernel⟩
set_option maxRecDepth 100000 in
theorem sh_transaction : Cond.static yL_transaction ∈ wAll := in_at 963 (by decide +kernel) (by decide +kernel)
abbrev hh_receiver : List (Nat × Nat × Nat × Nat) := [(0, 10, 13, 19), (0, 10, 17, 21)]
set_option maxRecDepth 100000 in
theorem mh_receiver : MIH yL_receiver cL_receiver 5 (some .int) hh_receiver 4 := ⟨in_at 74 (by decide +kernel) (by decide +kernel), in_at 972 (by decide +kernel) (by decide +kernel), by decide, by decide, by decide +kernel⟩
set_option maxRecDepth 100000 in
theorem sh_receiver : Cond.static yL_receiver ∈ wAll := in_at 971 (by decide +kernel) (by decide +kernel)
abbrev hh_message : List (Nat × Nat × Nat × Nat) := [(0, 10, 13, 19), (0, 10, 17, 21)]
set_option maxRecDepth 100000 in
theorem mh_message : MIH yL_message cL_message 5 (some .int) hh_message 4 := ⟨in_at 74 (by decide +kernel) (by decide +kernel), in_at 979 (by decide +kernel) (by decide +kernel), by decide, by decide, by decide +kernel⟩
set_option maxRecDepth 100000 in
theorem sh_message : Cond.static yL_message ∈ wAll := in_at 978 (by decide +kernel) (by decide +kernel)
abbrev hh_count : List (Nat × Nat × Nat × Nat) := [(0, 9, 12, 21)]
set_option maxRecDepth 100000 in
theorem mh_count : MIH yL_count cL_count 4 (some .int) hh_count 3 := ⟨in_at 74 (by decide +kernel) (by decide +kernel), in_at 986 (by decide +kernel) (by decide +kernel), by decide, by decide, by decide +kernel⟩
set_option maxRecDepth 100000 in
theorem sh_count : Cond.static yL_count ∈ wAll := in_at 985 (by decide +kernel) (by decide +kernel)
abbrev hh_setting : List (Nat × Nat × Nat × Nat) := [(0, 9, 12, 19)]
set_option maxRecDepth 100000 in
theorem mh_setting : MIH yL_setting cL_setting 4 (some .int) hh_setting 3 := ⟨in_at 74 (by decide +kernel) (by decide +kernel), in_at 990 (by decide +kernel) (by decide +kernel), by decide, by decide, by decide +kernel⟩
set_option maxRecDepth 100000 in
theorem sh_setting : Cond.static yL_setting ∈ wAll := in_at 989 (by decide +kernel) (by decide +kernel)
abbrev hh_ifPassed : List (Nat × Nat × Nat × Nat) := [(0, 12, 15, 19), (0, 12, 19, 21)]
set_option maxRecDepth 100000 in
theorem mh_ifPassed : MIH yL_ifPassed cL_ifPassed 6 (some .int) hh_ifPassed 5 := ⟨in_at 74 (by decide +kernel) (by decide +kernel), in_at 997 (by decide +kernel) (by decide +kernel), by decide, by decide, by decide +kernel⟩
set_option maxRecDepth 100000 in
theorem sh_ifPassed : Cond.static yL_ifPassed ∈ wAll := in_at 996 (by decide +kernel) (by decide +kernel)
abbrev hh_skips : List (Nat × Nat × Nat × Nat) := [(0, 10, 13, 19)]
set_option maxRecDepth 100000 in
theorem mh_skips : MIH yL_skips cL_skips 5 (some .int) hh_skips 4 := ⟨in_at 74 (by decide +kernel) (by decide +kernel), in_at 1005 (by decide +kernel) (by decide +kernel), by decide, by decide, by decide +kernel⟩
set_option maxRecDepth 100000 in
theorem sh_skips : Cond.static yL_skips ∈ wAll := in_at 1004 (by decide +kernel) (by decide +kernel)
/-- what a helper leaves -/
def HP (u : Mem) (o : Nat) (q : Int) (P : Option SV → Mem → Prop) : Option SV → Mem → Prop := fun r w => r = some (xI q) ∧ ((q = 0 ∧ ∃ (v : Int) (w1 : Mem), P (some (xI v)) w1 ∧ w = sJ w1 o 0 (i2j v)) ∨ (q ≠ 0 ∧ ∃ n, mN u ≤ n ∧ w = wN u n))
abbrev rmL_begin : Room := { frames := 7, cells := 146, slots := 2320, locals := 148 }
set_option maxRecDepth 100000 in
theorem h_begin {l : Launch} {D : DD} (hfl : l.stackTraces = false) {u : Mem} {x o : Nat}  (hx : mSh u x = some (.inl 7)) {P : Option SV → Mem → Prop} {q : Int} (hct : CTX l D yX7_begin cX7_begin 2 (some .int) rmX7_begin [xA x] u (xP q P) (xQ u q [xIS])) (hP : ∀ r w, P r w → (∃ v : Int, r = some (xI v)) ∧ mSh w o = some (.inr (1, 1))) : CTH l D yL_begin cL_begin 3 (some .int) hh_begin rmL_begin [xA x, xA o] u (HP u o q P) := by
  refine CTH.of hfl (by decide) (le_b rfl) ?_
  intro C hC hR hTB hL hDD hN
  show VW C 0 [some (xA x), some (xA o), none] [] u 0 0
  refine r_aload_n hC dL_begin_0 rfl ?_
  refine r_iconst hC dL_begin_1 ?_
  refine r_aload_n hC dL_begin_2 rfl ?_
  refine r_callX (as := []) hC dL_begin_3 mi_X7_begin se_X7_begin ml_L_7 (rm := rmX7_begin) ⟨le_b rfl, le_b rfl⟩ hx rfl rfl rfl (le_b rfl) (le_b rfl) (le_b rfl) (by rw [hL, hDD]; exact hct) ?_ ?_ rfl
  · rintro r w ⟨hq, hp⟩
    obtain ⟨⟨v, rfl⟩, ho⟩ := hP _ _ hp
    refine r_i2l hC dL_begin_6 ?_
    refine r_last hC dL_begin_7 ho ⟨by decide, by decide⟩ ?_
    refine r_goto (t := 14) hC dL_begin_8 (by rfl) ?_
    refine r_iconst hC dL_begin_14 ?_
    refine r_iret hC hR dL_begin_15 (le_b rfl) (le_b rfl) ?_
    exact ⟨by rw [hq], Or.inl ⟨hq, v, w, hp, rfl⟩⟩
  · rintro E e w ⟨⟨i, hi, hE⟩, n, hn, rfl⟩
    match i, hi, hE with
    | 0, hi, hE =>
      cases hE
      refine r_catch (hp := []) (a := 0) (b := 8) (h := 11) (ct := 13) (hs := []) hC hTB rfl (by decide) (Or.inl rfl) (by decide) (fun x hx => absurd hx List.not_mem_nil) ?_
      refine r_astore_n (lv' := [_, _, _]) hC dL_begin_11 (lt_b rfl) rfl (lt_b rfl) rfl ?_
      refine r_iconst hC dL_begin_12 ?_
      refine r_iret hC hR dL_begin_13 (le_b rfl) (le_b rfl) ?_
      exact ⟨by rw [hi]; rfl, Or.inr ⟨by omega, n, hn, rfl⟩⟩
    | i + 1, hi, hE => simp at hE

abbrev rmL_write : Room := { frames := 7, cells := 146, slots := 2320, locals := 150 }
set_option maxRecDepth 100000 in
theorem h_write {l : Launch} {D : DD} (hfl : l.stackTraces = false) {u : Mem} {x o : Nat} {p0 p1 p2 : Int} (hx : mSh u x = some (.inl 7)) {P : Option SV → Mem → Prop} {q : Int} (hct : CTX l D yX7_write cX7_write 4 (some .int) rmX7_write [xA x, xI p0, xI p1, xI p2] u (xP q P) (xQ u q [xIO, xIA, xIS])) (hP : ∀ r w, P r w → (∃ v : Int, r = some (xI v)) ∧ mSh w o = some (.inr (1, 1))) : CTH l D yL_write cL_write 6 (some .int) hh_write rmL_write [xA x, xI p0, xI p1, xI p2, xA o] u (HP u o q P) := by
  refine CTH.of hfl (by decide) (le_b rfl) ?_
  intro C hC hR hTB hL hDD hN
  show VW C 0 [some (xA x), some (xI p0), some (xI p1), some (xI p2), some (xA o), none] [] u 0 0
  refine r_aload hC dL_write_0 rfl ?_
  refine r_iconst hC dL_write_2 ?_
  refine r_aload_n hC dL_write_3 rfl ?_
  refine r_iload_n hC dL_write_4 rfl ?_
  refine r_iload_n hC dL_write_5 rfl ?_
  refine r_iload_n hC dL_write_6 rfl ?_
  refine r_callX (as := [xI p0, xI p1, xI p2]) hC dL_write_7 mi_X7_write se_X7_write ml_L_15 (rm := rmX7_write) ⟨le_b rfl, le_b rfl⟩ hx rfl rfl rfl (le_b rfl) (le_b rfl) (le_b rfl) (by rw [hL, hDD]; exact hct) ?_ ?_ rfl
  · rintro r w ⟨hq, hp⟩
    obtain ⟨⟨v, rfl⟩, ho⟩ := hP _ _ hp
    refine r_i2l hC dL_write_10 ?_
    refine r_last hC dL_write_11 ho ⟨by decide, by decide⟩ ?_
    refine r_goto (t := 27) hC dL_write_12 (by rfl) ?_
    refine r_iconst hC dL_write_27 ?_
    refine r_iret hC hR dL_write_28 (le_b rfl) (le_b rfl) ?_
    exact ⟨by rw [hq], Or.inl ⟨hq, v, w, hp, rfl⟩⟩
  · rintro E e w ⟨⟨i, hi, hE⟩, n, hn, rfl⟩
    match i, hi, hE with
    | 0, hi, hE =>
      cases hE
      refine r_catch (hp := []) (a := 0) (b := 12) (h := 15) (ct := 19) (hs := [(0, 12, 19, 21), (0, 12, 23, 13)]) hC hTB rfl (by decide) (Or.inr (Or.inr rfl)) (by decide) (fun x hx => absurd hx List.not_mem_nil) ?_
      refine r_astore (lv' := [_, _, _, _, _, _]) hC dL_write_15 (lt_b rfl) rfl (lt_b rfl) rfl ?_
      refine r_iconst hC dL_write_17 ?_
      refine r_iret hC hR dL_write_18 (le_b rfl) (le_b rfl) ?_
      exact ⟨by rw [hi]; rfl, Or.inr ⟨by omega, n, hn, rfl⟩⟩
    | 1, hi, hE =>
      cases hE
      refine r_catch (hp := [(0, 12, 15, 19)]) (a := 0) (b := 12) (h := 19) (ct := 21) (hs := [(0, 12, 23, 13)]) hC hTB rfl (by decide) (Or.inr (Or.inl rfl)) (by decide) (fun x hx => by rw [List.mem_singleton] at hx; subst hx; exact ⟨xIO, by decide, by decide⟩) ?_
      refine r_astore (lv' := [_, _, _, _, _, _]) hC dL_write_19 (lt_b rfl) rfl (lt_b rfl) rfl ?_
      refine r_iconst hC dL_write_21 ?_
      refine r_iret hC hR dL_write_22 (le_b rfl) (le_b rfl) ?_
      exact ⟨by rw [hi]; rfl, Or.inr ⟨by omega, n, hn, rfl⟩⟩
    | 2, hi, hE =>
      cases hE
      refine r_catch (hp := [(0, 12, 15, 19), (0, 12, 19, 21)]) (a := 0) (b := 12) (h := 23) (ct := 13) (hs := []) hC hTB rfl (by decide) (Or.inl rfl) (by decide) (fun x hx => by simp only [List.mem_cons, List.not_mem_nil, or_false] at hx; rcases hx with rfl | rfl; exact ⟨xIO, by decide, by decide⟩; exact ⟨xIA, by decide, by decide⟩) ?_
      refine r_astore (lv' := [_, _, _, _, _, _]) hC dL_write_23 (lt_b rfl) rfl (lt_b rfl) rfl ?_
      refine r_iconst hC dL_write_25 ?_
      refine r_iret hC hR dL_write_26 (le_b rfl) (le_b rfl) ?_
      exact ⟨by rw [hi]; rfl, Or.inr ⟨by omega, n, hn, rfl⟩⟩
    | i + 3, hi, hE => simp at hE

abbrev rmL_commit : Room := { frames := 7, cells := 146, slots := 2320, locals := 148 }
set_option maxRecDepth 100000 in
theorem h_commit {l : Launch} {D : DD} (hfl : l.stackTraces = false) {u : Mem} {x o : Nat} {p0 : Int} (hx : mSh u x = some (.inl 7)) {P : Option SV → Mem → Prop} {q : Int} (hct : CTX l D yX7_commit cX7_commit 2 (some .int) rmX7_commit [xA x, xI p0] u (xP q P) (xQ u q [xIO, xIS])) (hP : ∀ r w, P r w → (∃ v : Int, r = some (xI v)) ∧ mSh w o = some (.inr (1, 1))) : CTH l D yL_commit cL_commit 4 (some .int) hh_commit rmL_commit [xA x, xI p0, xA o] u (HP u o q P) := by
  refine CTH.of hfl (by decide) (le_b rfl) ?_
  intro C hC hR hTB hL hDD hN
  show VW C 0 [some (xA x), some (xI p0), some (xA o), none] [] u 0 0
  refine r_aload_n hC dL_commit_0 rfl ?_
  refine r_iconst hC dL_commit_1 ?_
  refine r_aload_n hC dL_commit_2 rfl ?_
  refine r_iload_n hC dL_commit_3 rfl ?_
  refine r_callX (as := [xI p0]) hC dL_commit_4 mi_X7_commit se_X7_commit ml_L_23 (rm := rmX7_commit) ⟨le_b rfl, le_b rfl⟩ hx rfl rfl rfl (le_b rfl) (le_b rfl) (le_b rfl) (by rw [hL, hDD]; exact hct) ?_ ?_ rfl
  · rintro r w ⟨hq, hp⟩
    obtain ⟨⟨v, rfl⟩, ho⟩ := hP _ _ hp
    refine r_i2l hC dL_commit_7 ?_
    refine r_last hC dL_commit_8 ho ⟨by decide, by decide⟩ ?_
    refine r_goto (t := 18) hC dL_commit_9 (by rfl) ?_
    refine r_iconst hC dL_commit_18 ?_
    refine r_iret hC hR dL_commit_19 (le_b rfl) (le_b rfl) ?_
    exact ⟨by rw [hq], Or.inl ⟨hq, v, w, hp, rfl⟩⟩
  · rintro E e w ⟨⟨i, hi, hE⟩, n, hn, rfl⟩
    match i, hi, hE with
    | 0, hi, hE =>
      cases hE
      refine r_catch (hp := []) (a := 0) (b := 9) (h := 12) (ct := 19) (hs := [(0, 9, 15, 13)]) hC hTB rfl (by decide) (Or.inr (Or.inr rfl)) (by decide) (fun x hx => absurd hx List.not_mem_nil) ?_
      refine r_astore_n (lv' := [_, _, _, _]) hC dL_commit_12 (lt_b rfl) rfl (lt_b rfl) rfl ?_
      refine r_iconst hC dL_commit_13 ?_
      refine r_iret hC hR dL_commit_14 (le_b rfl) (le_b rfl) ?_
      exact ⟨by rw [hi]; rfl, Or.inr ⟨by omega, n, hn, rfl⟩⟩
    | 1, hi, hE =>
      cases hE
      refine r_catch (hp := [(0, 9, 12, 19)]) (a := 0) (b := 9) (h := 15) (ct := 13) (hs := []) hC hTB rfl (by decide) (Or.inl rfl) (by decide) (fun x hx => by rw [List.mem_singleton] at hx; subst hx; exact ⟨xIO, by decide, by decide⟩) ?_
      refine r_astore_n (lv' := [_, _, _, _]) hC dL_commit_15 (lt_b rfl) rfl (lt_b rfl) rfl ?_
      refine r_iconst hC dL_commit_16 ?_
      refine r_iret hC hR dL_commit_17 (le_b rfl) (le_b rfl) ?_
      exact ⟨by rw [hi]; rfl, Or.inr ⟨by omega, n, hn, rfl⟩⟩
    | i + 2, hi, hE => simp at hE

abbrev rmL_drop : Room := { frames := 7, cells := 146, slots := 2320, locals := 148 }
set_option maxRecDepth 100000 in
theorem h_drop {l : Launch} {D : DD} (hfl : l.stackTraces = false) {u : Mem} {x o : Nat} {p0 : Int} (hx : mSh u x = some (.inl 7)) {P : Option SV → Mem → Prop} {q : Int} (hct : CTX l D yX7_drop cX7_drop 2 (some .int) rmX7_drop [xA x, xI p0] u (xP q P) (xQ u q [xIO])) (hP : ∀ r w, P r w → (∃ v : Int, r = some (xI v)) ∧ mSh w o = some (.inr (1, 1))) : CTH l D yL_drop cL_drop 4 (some .int) hh_drop rmL_drop [xA x, xI p0, xA o] u (HP u o q P) := by
  refine CTH.of hfl (by decide) (le_b rfl) ?_
  intro C hC hR hTB hL hDD hN
  show VW C 0 [some (xA x), some (xI p0), some (xA o), none] [] u 0 0
  refine r_aload_n hC dL_drop_0 rfl ?_
  refine r_iconst hC dL_drop_1 ?_
  refine r_aload_n hC dL_drop_2 rfl ?_
  refine r_iload_n hC dL_drop_3 rfl ?_
  refine r_callX (as := [xI p0]) hC dL_drop_4 mi_X7_drop se_X7_drop ml_L_27 (rm := rmX7_drop) ⟨le_b rfl, le_b rfl⟩ hx rfl rfl rfl (le_b rfl) (le_b rfl) (le_b rfl) (by rw [hL, hDD]; exact hct) ?_ ?_ rfl
  · rintro r w ⟨hq, hp⟩
    obtain ⟨⟨v, rfl⟩, ho⟩ := hP _ _ hp
    refine r_i2l hC dL_drop_7 ?_
    refine r_last hC dL_drop_8 ho ⟨by decide, by decide⟩ ?_
    refine r_goto (t := 15) hC dL_drop_9 (by rfl) ?_
    refine r_iconst hC dL_drop_15 ?_
    refine r_iret hC hR dL_drop_16 (le_b rfl) (le_b rfl) ?_
    exact ⟨by rw [hq], Or.inl ⟨hq, v, w, hp, rfl⟩⟩
  · rintro E e w ⟨⟨i, hi, hE⟩, n, hn, rfl⟩
    match i, hi, hE with
    | 0, hi, hE =>
      cases hE
      refine r_catch (hp := []) (a := 0) (b := 9) (h := 12) (ct := 19) (hs := []) hC hTB rfl (by decide) (Or.inr (Or.inr rfl)) (by decide) (fun x hx => absurd hx List.not_mem_nil) ?_
      refine r_astore_n (lv' := [_, _, _, _]) hC dL_drop_12 (lt_b rfl) rfl (lt_b rfl) rfl ?_
      refine r_iconst hC dL_drop_13 ?_
      refine r_iret hC hR dL_drop_14 (le_b rfl) (le_b rfl) ?_
      exact ⟨by rw [hi]; rfl, Or.inr ⟨by omega, n, hn, rfl⟩⟩
    | i + 1, hi, hE => simp at hE

abbrev rmL_want : Room := { frames := 7, cells := 146, slots := 2320, locals := 151 }
set_option maxRecDepth 100000 in
theorem h_want {l : Launch} {D : DD} (hfl : l.stackTraces = false) {u : Mem} {x o : Nat} {p0 p1 : Int} (hx : mSh u x = some (.inl 7)) {P : Option SV → Mem → Prop} {q : Int} (hct : CTX l D yX7_want cX7_want 5 (some .int) rmX7_want [xA x, xI p0, xI p1] u (xP q P) (xQ u q [xIO, xIA])) (hP : ∀ r w, P r w → (∃ v : Int, r = some (xI v)) ∧ mSh w o = some (.inr (1, 1))) : CTH l D yL_want cL_want 5 (some .int) hh_want rmL_want [xA x, xI p0, xI p1, xA o] u (HP u o q P) := by
  refine CTH.of hfl (by decide) (le_b rfl) ?_
  intro C hC hR hTB hL hDD hN
  show VW C 0 [some (xA x), some (xI p0), some (xI p1), some (xA o), none] [] u 0 0
  refine r_aload_n hC dL_want_0 rfl ?_
  refine r_iconst hC dL_want_1 ?_
  refine r_aload_n hC dL_want_2 rfl ?_
  refine r_iload_n hC dL_want_3 rfl ?_
  refine r_iload_n hC dL_want_4 rfl ?_
  refine r_callX (as := [xI p0, xI p1]) hC dL_want_5 mi_X7_want se_X7_want ml_L_30 (rm := rmX7_want) ⟨le_b rfl, le_b rfl⟩ hx rfl rfl rfl (le_b rfl) (le_b rfl) (le_b rfl) (by rw [hL, hDD]; exact hct) ?_ ?_ rfl
  · rintro r w ⟨hq, hp⟩
    obtain ⟨⟨v, rfl⟩, ho⟩ := hP _ _ hp
    refine r_i2l hC dL_want_8 ?_
    refine r_last hC dL_want_9 ho ⟨by decide, by decide⟩ ?_
    refine r_goto (t := 21) hC dL_want_10 (by rfl) ?_
    refine r_iconst hC dL_want_21 ?_
    refine r_iret hC hR dL_want_22 (le_b rfl) (le_b rfl) ?_
    exact ⟨by rw [hq], Or.inl ⟨hq, v, w, hp, rfl⟩⟩
  · rintro E e w ⟨⟨i, hi, hE⟩, n, hn, rfl⟩
    match i, hi, hE with
    | 0, hi, hE =>
      cases hE
      refine r_catch (hp := []) (a := 0) (b := 10) (h := 13) (ct := 19) (hs := [(0, 10, 17, 21)]) hC hTB rfl (by decide) (Or.inr (Or.inr rfl)) (by decide) (fun x hx => absurd hx List.not_mem_nil) ?_
      refine r_astore (lv' := [_, _, _, _, _]) hC dL_want_13 (lt_b rfl) rfl (lt_b rfl) rfl ?_
      refine r_iconst hC dL_want_15 ?_
      refine r_iret hC hR dL_want_16 (le_b rfl) (le_b rfl) ?_
      exact ⟨by rw [hi]; rfl, Or.inr ⟨by omega, n, hn, rfl⟩⟩
    | 1, hi, hE =>
      cases hE
      refine r_catch (hp := [(0, 10, 13, 19)]) (a := 0) (b := 10) (h := 17) (ct := 21) (hs := []) hC hTB rfl (by decide) (Or.inr (Or.inl rfl)) (by decide) (fun x hx => by rw [List.mem_singleton] at hx; subst hx; exact ⟨xIO, by decide, by decide⟩) ?_
      refine r_astore (lv' := [_, _, _, _, _]) hC dL_want_17 (lt_b rfl) rfl (lt_b rfl) rfl ?_
      refine r_iconst hC dL_want_19 ?_
      refine r_iret hC hR dL_want_20 (le_b rfl) (le_b rfl) ?_
      exact ⟨by rw [hi]; rfl, Or.inr ⟨by omega, n, hn, rfl⟩⟩
    | i + 2, hi, hE => simp at hE

abbrev rmL_pass : Room := { frames := 7, cells := 146, slots := 2320, locals := 148 }
set_option maxRecDepth 100000 in
theorem h_pass {l : Launch} {D : DD} (hfl : l.stackTraces = false) {u : Mem} {x o : Nat} {p0 : Int} (hx : mSh u x = some (.inl 7)) {P : Option SV → Mem → Prop} {q : Int} (hct : CTX l D yX7_pass cX7_pass 2 (some .int) rmX7_pass [xA x, xI p0] u (xP q P) (xQ u q [xIA])) (hP : ∀ r w, P r w → (∃ v : Int, r = some (xI v)) ∧ mSh w o = some (.inr (1, 1))) : CTH l D yL_pass cL_pass 4 (some .int) hh_pass rmL_pass [xA x, xI p0, xA o] u (HP u o q P) := by
  refine CTH.of hfl (by decide) (le_b rfl) ?_
  intro C hC hR hTB hL hDD hN
  show VW C 0 [some (xA x), some (xI p0), some (xA o), none] [] u 0 0
  refine r_aload_n hC dL_pass_0 rfl ?_
  refine r_iconst hC dL_pass_1 ?_
  refine r_aload_n hC dL_pass_2 rfl ?_
  refine r_iload_n hC dL_pass_3 rfl ?_
  refine r_callX (as := [xI p0]) hC dL_pass_4 mi_X7_pass se_X7_pass ml_L_34 (rm := rmX7_pass) ⟨le_b rfl, le_b rfl⟩ hx rfl rfl rfl (le_b rfl) (le_b rfl) (le_b rfl) (by rw [hL, hDD]; exact hct) ?_ ?_ rfl
  · rintro r w ⟨hq, hp⟩
    obtain ⟨⟨v, rfl⟩, ho⟩ := hP _ _ hp
    refine r_i2l hC dL_pass_7 ?_
    refine r_last hC dL_pass_8 ho ⟨by decide, by decide⟩ ?_
    refine r_goto (t := 15) hC dL_pass_9 (by rfl) ?_
    refine r_iconst hC dL_pass_15 ?_
    refine r_iret hC hR dL_pass_16 (le_b rfl) (le_b rfl) ?_
    exact ⟨by rw [hq], Or.inl ⟨hq, v, w, hp, rfl⟩⟩
  · rintro E e w ⟨⟨i, hi, hE⟩, n, hn, rfl⟩
    match i, hi, hE with
    | 0, hi, hE =>
      cases hE
      refine r_catch (hp := []) (a := 0) (b := 9) (h := 12) (ct := 21) (hs := []) hC hTB rfl (by decide) (Or.inr (Or.inl rfl)) (by decide) (fun x hx => absurd hx List.not_mem_nil) ?_
      refine r_astore_n (lv' := [_, _, _, _]) hC dL_pass_12 (lt_b rfl) rfl (lt_b rfl) rfl ?_
      refine r_iconst hC dL_pass_13 ?_
      refine r_iret hC hR dL_pass_14 (le_b rfl) (le_b rfl) ?_
      exact ⟨by rw [hi]; rfl, Or.inr ⟨by omega, n, hn, rfl⟩⟩
    | i + 1, hi, hE => simp at hE

abbrev rmL_lose : Room := { frames := 7, cells := 146, slots := 2320, locals := 147 }
set_option maxRecDepth 100000 in
theorem h_lose {l : Launch} {D : DD} (hfl : l.stackTraces = false) {u : Mem} {x o : Nat}  (hx : mSh u x = some (.inl 7)) {P : Option SV → Mem → Prop} {q : Int} (hct : CTX l D yX7_lose cX7_lose 1 (some .int) rmX7_lose [xA x] u (xP q P) (xQ u q [xIS])) (hP : ∀ r w, P r w → (∃ v : Int, r = some (xI v)) ∧ mSh w o = some (.inr (1, 1))) : CTH l D yL_lose cL_lose 3 (some .int) hh_lose rmL_lose [xA x, xA o] u (HP u o q P) := by
  refine CTH.of hfl (by decide) (le_b rfl) ?_
  intro C hC hR hTB hL hDD hN
  show VW C 0 [some (xA x), some (xA o), none] [] u 0 0
  refine r_aload_n hC dL_lose_0 rfl ?_
  refine r_iconst hC dL_lose_1 ?_
  refine r_aload_n hC dL_lose_2 rfl ?_
  refine r_callX (as := []) hC dL_lose_3 mi_X7_lose se_X7_lose ml_L_37 (rm := rmX7_lose) ⟨le_b rfl, le_b rfl⟩ hx rfl rfl rfl (le_b rfl) (le_b rfl) (le_b rfl) (by rw [hL, hDD]; exact hct) ?_ ?_ rfl
  · rintro r w ⟨hq, hp⟩
    obtain ⟨⟨v, rfl⟩, ho⟩ := hP _ _ hp
    refine r_i2l hC dL_lose_6 ?_
    refine r_last hC dL_lose_7 ho ⟨by decide, by decide⟩ ?_
    refine r_goto (t := 14) hC dL_lose_8 (by rfl) ?_
    refine r_iconst hC dL_lose_14 ?_
    refine r_iret hC hR dL_lose_15 (le_b rfl) (le_b rfl) ?_
    exact ⟨by rw [hq], Or.inl ⟨hq, v, w, hp, rfl⟩⟩
  · rintro E e w ⟨⟨i, hi, hE⟩, n, hn, rfl⟩
    match i, hi, hE with
    | 0, hi, hE =>
      cases hE
      refine r_catch (hp := []) (a := 0) (b := 8) (h := 11) (ct := 13) (hs := []) hC hTB rfl (by decide) (Or.inl rfl) (by decide) (fun x hx => absurd hx List.not_mem_nil) ?_
      refine r_astore_n (lv' := [_, _, _]) hC dL_lose_11 (lt_b rfl) rfl (lt_b rfl) rfl ?_
      refine r_iconst hC dL_lose_12 ?_
      refine r_iret hC hR dL_lose_13 (le_b rfl) (le_b rfl) ?_
      exact ⟨by rw [hi]; rfl, Or.inr ⟨by omega, n, hn, rfl⟩⟩
    | i + 1, hi, hE => simp at hE

abbrev rmL_set : Room := { frames := 7, cells := 146, slots := 2320, locals := 150 }
set_option maxRecDepth 100000 in
theorem h_set {l : Launch} {D : DD} (hfl : l.stackTraces = false) {u : Mem} {x o : Nat} {p0 p1 : Int} (hx : mSh u x = some (.inl 7)) {P : Option SV → Mem → Prop} {q : Int} (hct : CTX l D yX7_set cX7_set 4 (some .int) rmX7_set [xA x, xI p0, xI p1] u (xP q P) (xQ u q [xIO, xIA, xIS])) (hP : ∀ r w, P r w → (∃ v : Int, r = some (xI v)) ∧ mSh w o = some (.inr (1, 1))) : CTH l D yL_set cL_set 5 (some .int) hh_set rmL_set [xA x, xI p0, xI p1, xA o] u (HP u o q P) := by
  refine CTH.of hfl (by decide) (le_b rfl) ?_
  intro C hC hR hTB hL hDD hN
  show VW C 0 [some (xA x), some (xI p0), some (xI p1), some (xA o), none] [] u 0 0
  refine r_aload_n hC dL_set_0 rfl ?_
  refine r_iconst hC dL_set_1 ?_
  refine r_aload_n hC dL_set_2 rfl ?_
  refine r_iload_n hC dL_set_3 rfl ?_
  refine r_iload_n hC dL_set_4 rfl ?_
  refine r_callX (as := [xI p0, xI p1]) hC dL_set_5 mi_X7_set se_X7_set ml_L_40 (rm := rmX7_set) ⟨le_b rfl, le_b rfl⟩ hx rfl rfl rfl (le_b rfl) (le_b rfl) (le_b rfl) (by rw [hL, hDD]; exact hct) ?_ ?_ rfl
  · rintro r w ⟨hq, hp⟩
    obtain ⟨⟨v, rfl⟩, ho⟩ := hP _ _ hp
    refine r_i2l hC dL_set_8 ?_
    refine r_last hC dL_set_9 ho ⟨by decide, by decide⟩ ?_
    refine r_goto (t := 25) hC dL_set_10 (by rfl) ?_
    refine r_iconst hC dL_set_25 ?_
    refine r_iret hC hR dL_set_26 (le_b rfl) (le_b rfl) ?_
    exact ⟨by rw [hq], Or.inl ⟨hq, v, w, hp, rfl⟩⟩
  · rintro E e w ⟨⟨i, hi, hE⟩, n, hn, rfl⟩
    match i, hi, hE with
    | 0, hi, hE =>
      cases hE
      refine r_catch (hp := []) (a := 0) (b := 10) (h := 13) (ct := 19) (hs := [(0, 10, 17, 21), (0, 10, 21, 13)]) hC hTB rfl (by decide) (Or.inr (Or.inr rfl)) (by decide) (fun x hx => absurd hx List.not_mem_nil) ?_
      refine r_astore (lv' := [_, _, _, _, _]) hC dL_set_13 (lt_b rfl) rfl (lt_b rfl) rfl ?_
      refine r_iconst hC dL_set_15 ?_
      refine r_iret hC hR dL_set_16 (le_b rfl) (le_b rfl) ?_
      exact ⟨by rw [hi]; rfl, Or.inr ⟨by omega, n, hn, rfl⟩⟩
    | 1, hi, hE =>
      cases hE
      refine r_catch (hp := [(0, 10, 13, 19)]) (a := 0) (b := 10) (h := 17) (ct := 21) (hs := [(0, 10, 21, 13)]) hC hTB rfl (by decide) (Or.inr (Or.inl rfl)) (by decide) (fun x hx => by rw [List.mem_singleton] at hx; subst hx; exact ⟨xIO, by decide, by decide⟩) ?_
      refine r_astore (lv' := [_, _, _, _, _]) hC dL_set_17 (lt_b rfl) rfl (lt_b rfl) rfl ?_
      refine r_iconst hC dL_set_19 ?_
      refine r_iret hC hR dL_set_20 (le_b rfl) (le_b rfl) ?_
      exact ⟨by rw [hi]; rfl, Or.inr ⟨by omega, n, hn, rfl⟩⟩
    | 2, hi, hE =>
      cases hE
      refine r_catch (hp := [(0, 10, 13, 19), (0, 10, 17, 21)]) (a := 0) (b := 10) (h := 21) (ct := 13) (hs := []) hC hTB rfl (by decide) (Or.inl rfl) (by decide) (fun x hx => by simp only [List.mem_cons, List.not_mem_nil, or_false] at hx; rcases hx with rfl | rfl; exact ⟨xIO, by decide, by decide⟩; exact ⟨xIA, by decide, by decide⟩) ?_
      refine r_astore (lv' := [_, _, _, _, _]) hC dL_set_21 (lt_b rfl) rfl (lt_b rfl) rfl ?_
      refine r_iconst hC dL_set_23 ?_
      refine r_iret hC hR dL_set_24 (le_b rfl) (le_b rfl) ?_
      exact ⟨by rw [hi]; rfl, Or.inr ⟨by omega, n, hn, rfl⟩⟩
    | i + 3, hi, hE => simp at hE

abbrev rmL_append : Room := { frames := 7, cells := 1, slots := 6, locals := 103 }
set_option maxRecDepth 100000 in
theorem h_append {l : Launch} {D : DD} (hfl : l.stackTraces = false) {u : Mem} {x o : Nat} {p0 : Int} (hx : mSh u x = some (.inl 7)) {P : Option SV → Mem → Prop} {q : Int} (hct : CTX l D yX7_append cX7_append 2 (some .int) rmX7_append [xA x, xI p0] u (xP q P) (xQ u q [xIA, xIS])) (hP : ∀ r w, P r w → (∃ v : Int, r = some (xI v)) ∧ mSh w o = some (.inr (1, 1))) : CTH l D yL_append cL_append 4 (some .int) hh_append rmL_append [xA x, xI p0, xA o] u (HP u o q P) := by
  refine CTH.of hfl (by decide) (le_b rfl) ?_
  intro C hC hR hTB hL hDD hN
  show VW C 0 [some (xA x), some (xI p0), some (xA o), none] [] u 0 0
  refine r_aload_n hC dL_append_0 rfl ?_
  refine r_iconst hC dL_append_1 ?_
  refine r_aload_n hC dL_append_2 rfl ?_
  refine r_iload_n hC dL_append_3 rfl ?_
  refine r_callX (as := [xI p0]) hC dL_append_4 mi_X7_append se_X7_append ml_L_43 (rm := rmX7_append) ⟨le_b rfl, le_b rfl⟩ hx rfl rfl rfl (le_b rfl) (le_b rfl) (le_b rfl) (by rw [hL, hDD]; exact hct) ?_ ?_ rfl
  · rintro r w ⟨hq, hp⟩
    obtain ⟨⟨v, rfl⟩, ho⟩ := hP _ _ hp
    refine r_i2l hC dL_append_7 ?_
    refine r_last hC dL_append_8 ho ⟨by decide, by decide⟩ ?_
    refine r_goto (t := 18) hC dL_append_9 (by rfl) ?_
    refine r_iconst hC dL_append_18 ?_
    refine r_iret hC hR dL_append_19 (le_b rfl) (le_b rfl) ?_
    exact ⟨by rw [hq], Or.inl ⟨hq, v, w, hp, rfl⟩⟩
  · rintro E e w ⟨⟨i, hi, hE⟩, n, hn, rfl⟩
    match i, hi, hE with
    | 0, hi, hE =>
      cases hE
      refine r_catch (hp := []) (a := 0) (b := 9) (h := 12) (ct := 21) (hs := [(0, 9, 15, 13)]) hC hTB rfl (by decide) (Or.inr (Or.inl rfl)) (by decide) (fun x hx => absurd hx List.not_mem_nil) ?_
      refine r_astore_n (lv' := [_, _, _, _]) hC dL_append_12 (lt_b rfl) rfl (lt_b rfl) rfl ?_
      refine r_iconst hC dL_append_13 ?_
      refine r_iret hC hR dL_append_14 (le_b rfl) (le_b rfl) ?_
      exact ⟨by rw [hi]; rfl, Or.inr ⟨by omega, n, hn, rfl⟩⟩
    | 1, hi, hE =>
      cases hE
      refine r_catch (hp := [(0, 9, 12, 21)]) (a := 0) (b := 9) (h := 15) (ct := 13) (hs := []) hC hTB rfl (by decide) (Or.inl rfl) (by decide) (fun x hx => by rw [List.mem_singleton] at hx; subst hx; exact ⟨xIA, by decide, by decide⟩) ?_
      refine r_astore_n (lv' := [_, _, _, _]) hC dL_append_15 (lt_b rfl) rfl (lt_b rfl) rfl ?_
      refine r_iconst hC dL_append_16 ?_
      refine r_iret hC hR dL_append_17 (le_b rfl) (le_b rfl) ?_
      exact ⟨by rw [hi]; rfl, Or.inr ⟨by omega, n, hn, rfl⟩⟩
    | i + 2, hi, hE => simp at hE

abbrev rmL_obey : Room := { frames := 7, cells := 146, slots := 2320, locals := 164 }
set_option maxRecDepth 100000 in
theorem h_obey {l : Launch} {D : DD} (hfl : l.stackTraces = false) {u : Mem} {x o : Nat}  (hx : mSh u x = some (.inl 7)) {P : Option SV → Mem → Prop} {q : Int} (hct : CTX l D yX7_obey cX7_obey 3 (some .int) rmX7_obey [xA x] u (xP q P) (xQ u q [xIA])) (hP : ∀ r w, P r w → (∃ v : Int, r = some (xI v)) ∧ mSh w o = some (.inr (1, 1))) : CTH l D yL_obey cL_obey 3 (some .int) hh_obey rmL_obey [xA x, xA o] u (HP u o q P) := by
  refine CTH.of hfl (by decide) (le_b rfl) ?_
  intro C hC hR hTB hL hDD hN
  show VW C 0 [some (xA x), some (xA o), none] [] u 0 0
  refine r_aload_n hC dL_obey_0 rfl ?_
  refine r_iconst hC dL_obey_1 ?_
  refine r_aload_n hC dL_obey_2 rfl ?_
  refine r_callX (as := []) hC dL_obey_3 mi_X7_obey se_X7_obey ml_L_46 (rm := rmX7_obey) ⟨le_b rfl, le_b rfl⟩ hx rfl rfl rfl (le_b rfl) (le_b rfl) (le_b rfl) (by rw [hL, hDD]; exact hct) ?_ ?_ rfl
  · rintro r w ⟨hq, hp⟩
    obtain ⟨⟨v, rfl⟩, ho⟩ := hP _ _ hp
    refine r_i2l hC dL_obey_6 ?_
    refine r_last hC dL_obey_7 ho ⟨by decide, by decide⟩ ?_
    refine r_goto (t := 14) hC dL_obey_8 (by rfl) ?_
    refine r_iconst hC dL_obey_14 ?_
    refine r_iret hC hR dL_obey_15 (le_b rfl) (le_b rfl) ?_
    exact ⟨by rw [hq], Or.inl ⟨hq, v, w, hp, rfl⟩⟩
  · rintro E e w ⟨⟨i, hi, hE⟩, n, hn, rfl⟩
    match i, hi, hE with
    | 0, hi, hE =>
      cases hE
      refine r_catch (hp := []) (a := 0) (b := 8) (h := 11) (ct := 21) (hs := []) hC hTB rfl (by decide) (Or.inr (Or.inl rfl)) (by decide) (fun x hx => absurd hx List.not_mem_nil) ?_
      refine r_astore_n (lv' := [_, _, _]) hC dL_obey_11 (lt_b rfl) rfl (lt_b rfl) rfl ?_
      refine r_iconst hC dL_obey_12 ?_
      refine r_iret hC hR dL_obey_13 (le_b rfl) (le_b rfl) ?_
      exact ⟨by rw [hi]; rfl, Or.inr ⟨by omega, n, hn, rfl⟩⟩
    | i + 1, hi, hE => simp at hE

abbrev rmL_goBack : Room := { frames := 7, cells := 146, slots := 2320, locals := 147 }
set_option maxRecDepth 100000 in
theorem h_goBack {l : Launch} {D : DD} (hfl : l.stackTraces = false) {u : Mem} {x o : Nat}  (hx : mSh u x = some (.inl 7)) {P : Option SV → Mem → Prop} {q : Int} (hct : CTX l D yX7_goBack cX7_goBack 1 (some .int) rmX7_goBack [xA x] u (xP q P) (xQ u q [xIS])) (hP : ∀ r w, P r w → (∃ v : Int, r = some (xI v)) ∧ mSh w o = some (.inr (1, 1))) : CTH l D yL_goBack cL_goBack 3 (some .int) hh_goBack rmL_goBack [xA x, xA o] u (HP u o q P) := by
  refine CTH.of hfl (by decide) (le_b rfl) ?_
  intro C hC hR hTB hL hDD hN
  show VW C 0 [some (xA x), some (xA o), none] [] u 0 0
  refine r_aload_n hC dL_goBack_0 rfl ?_
  refine r_iconst hC dL_goBack_1 ?_
  refine r_aload_n hC dL_goBack_2 rfl ?_
  refine r_callX (as := []) hC dL_goBack_3 mi_X7_goBack se_X7_goBack ml_L_49 (rm := rmX7_goBack) ⟨le_b rfl, le_b rfl⟩ hx rfl rfl rfl (le_b rfl) (le_b rfl) (le_b rfl) (by rw [hL, hDD]; exact hct) ?_ ?_ rfl
  · rintro r w ⟨hq, hp⟩
    obtain ⟨⟨v, rfl⟩, ho⟩ := hP _ _ hp
    refine r_i2l hC dL_goBack_6 ?_
    refine r_last hC dL_goBack_7 ho ⟨by decide, by decide⟩ ?_
    refine r_goto (t := 14) hC dL_goBack_8 (by rfl) ?_
    refine r_iconst hC dL_goBack_14 ?_
    refine r_iret hC hR dL_goBack_15 (le_b rfl) (le_b rfl) ?_
    exact ⟨by rw [hq], Or.inl ⟨hq, v, w, hp, rfl⟩⟩
  · rintro E e w ⟨⟨i, hi, hE⟩, n, hn, rfl⟩
    match i, hi, hE with
    | 0, hi, hE =>
      cases hE
      refine r_catch (hp := []) (a := 0) (b := 8) (h := 11) (ct := 13) (hs := []) hC hTB rfl (by decide) (Or.inl rfl) (by decide) (fun x hx => absurd hx List.not_mem_nil) ?_
      refine r_astore_n (lv' := [_, _, _]) hC dL_goBack_11 (lt_b rfl) rfl (lt_b rfl) rfl ?_
      refine r_iconst hC dL_goBack_12 ?_
      refine r_iret hC hR dL_goBack_13 (le_b rfl) (le_b rfl) ?_
      exact ⟨by rw [hi]; rfl, Or.inr ⟨by omega, n, hn, rfl⟩⟩
    | i + 1, hi, hE => simp at hE

abbrev rmL_undo : Room := { frames := 7, cells := 1, slots := 6, locals := 126 }
set_option maxRecDepth 100000 in
theorem h_undo {l : Launch} {D : DD} (hfl : l.stackTraces = false) {u : Mem} {x o : Nat}  (hx : mSh u x = some (.inl 7)) {P : Option SV → Mem → Prop} {q : Int} (hct : CTX l D yX7_undo cX7_undo 2 (some .int) rmX7_undo [xA x] u (xP q P) (xQ u q [xIS])) (hP : ∀ r w, P r w → (∃ v : Int, r = some (xI v)) ∧ mSh w o = some (.inr (1, 1))) : CTH l D yL_undo cL_undo 3 (some .int) hh_undo rmL_undo [xA x, xA o] u (HP u o q P) := by
  refine CTH.of hfl (by decide) (le_b rfl) ?_
  intro C hC hR hTB hL hDD hN
  show VW C 0 [some (xA x), some (xA o), none] [] u 0 0
  refine r_aload_n hC dL_undo_0 rfl ?_
  refine r_iconst hC dL_undo_1 ?_
  refine r_aload_n hC dL_undo_2 rfl ?_
  refine r_callX (as := []) hC dL_undo_3 mi_X7_undo se_X7_undo ml_L_52 (rm := rmX7_undo) ⟨le_b rfl, le_b rfl⟩ hx rfl rfl rfl (le_b rfl) (le_b rfl) (le_b rfl) (by rw [hL, hDD]; exact hct) ?_ ?_ rfl
  · rintro r w ⟨hq, hp⟩
    obtain ⟨⟨v, rfl⟩, ho⟩ := hP _ _ hp
    refine r_i2l hC dL_undo_6 ?_
    refine r_last hC dL_undo_7 ho ⟨by decide, by decide⟩ ?_
    refine r_goto (t := 14) hC dL_undo_8 (by rfl) ?_
    refine r_iconst hC dL_undo_14 ?_
    refine r_iret hC hR dL_undo_15 (le_b rfl) (le_b rfl) ?_
    exact ⟨by rw [hq], Or.inl ⟨hq, v, w, hp, rfl⟩⟩
  · rintro E e w ⟨⟨i, hi, hE⟩, n, hn, rfl⟩
    match i, hi, hE with
    | 0, hi, hE =>
      cases hE
      refine r_catch (hp := []) (a := 0) (b := 8) (h := 11) (ct := 13) (hs := []) hC hTB rfl (by decide) (Or.inl rfl) (by decide) (fun x hx => absurd hx List.not_mem_nil) ?_
      refine r_astore_n (lv' := [_, _, _]) hC dL_undo_11 (lt_b rfl) rfl (lt_b rfl) rfl ?_
      refine r_iconst hC dL_undo_12 ?_
      refine r_iret hC hR dL_undo_13 (le_b rfl) (le_b rfl) ?_
      exact ⟨by rw [hi]; rfl, Or.inr ⟨by omega, n, hn, rfl⟩⟩
    | i + 1, hi, hE => simp at hE

abbrev rmL_row : Room := { frames := 7, cells := 1, slots := 6, locals := 110 }
set_option maxRecDepth 100000 in
theorem h_row {l : Launch} {D : DD} (hfl : l.stackTraces = false) {u : Mem} {x o : Nat} {p0 p1 : Int} (hx : mSh u x = some (.inl 7)) {P : Option SV → Mem → Prop} {q : Int} (hct : CTX l D yX7_row cX7_row 3 (some .int) rmX7_row [xA x, xI p0, xI p1] u (xP q P) (xQ u q [xIO, xIA])) (hP : ∀ r w, P r w → (∃ v : Int, r = some (xI v)) ∧ mSh w o = some (.inr (1, 1))) : CTH l D yL_row cL_row 5 (some .int) hh_row rmL_row [xA x, xI p0, xI p1, xA o] u (HP u o q P) := by
  refine CTH.of hfl (by decide) (le_b rfl) ?_
  intro C hC hR hTB hL hDD hN
  show VW C 0 [some (xA x), some (xI p0), some (xI p1), some (xA o), none] [] u 0 0
  refine r_aload_n hC dL_row_0 rfl ?_
  refine r_iconst hC dL_row_1 ?_
  refine r_aload_n hC dL_row_2 rfl ?_
  refine r_iload_n hC dL_row_3 rfl ?_
  refine r_iload_n hC dL_row_4 rfl ?_
  refine r_callX (as := [xI p0, xI p1]) hC dL_row_5 mi_X7_row se_X7_row ml_L_55 (rm := rmX7_row) ⟨le_b rfl, le_b rfl⟩ hx rfl rfl rfl (le_b rfl) (le_b rfl) (le_b rfl) (by rw [hL, hDD]; exact hct) ?_ ?_ rfl
  · rintro r w ⟨hq, hp⟩
    obtain ⟨⟨v, rfl⟩, ho⟩ := hP _ _ hp
    refine r_i2l hC dL_row_8 ?_
    refine r_last hC dL_row_9 ho ⟨by decide, by decide⟩ ?_
    refine r_goto (t := 21) hC dL_row_10 (by rfl) ?_
    refine r_iconst hC dL_row_21 ?_
    refine r_iret hC hR dL_row_22 (le_b rfl) (le_b rfl) ?_
    exact ⟨by rw [hq], Or.inl ⟨hq, v, w, hp, rfl⟩⟩
  · rintro E e w ⟨⟨i, hi, hE⟩, n, hn, rfl⟩
    match i, hi, hE with
    | 0, hi, hE =>
      cases hE
      refine r_catch (hp := []) (a := 0) (b := 10) (h := 13) (ct := 19) (hs := [(0, 10, 17, 21)]) hC hTB rfl (by decide) (Or.inr (Or.inr rfl)) (by decide) (fun x hx => absurd hx List.not_mem_nil) ?_
      refine r_astore (lv' := [_, _, _, _, _]) hC dL_row_13 (lt_b rfl) rfl (lt_b rfl) rfl ?_
      refine r_iconst hC dL_row_15 ?_
      refine r_iret hC hR dL_row_16 (le_b rfl) (le_b rfl) ?_
      exact ⟨by rw [hi]; rfl, Or.inr ⟨by omega, n, hn, rfl⟩⟩
    | 1, hi, hE =>
      cases hE
      refine r_catch (hp := [(0, 10, 13, 19)]) (a := 0) (b := 10) (h := 17) (ct := 21) (hs := []) hC hTB rfl (by decide) (Or.inr (Or.inl rfl)) (by decide) (fun x hx => by rw [List.mem_singleton] at hx; subst hx; exact ⟨xIO, by decide, by decide⟩) ?_
      refine r_astore (lv' := [_, _, _, _, _]) hC dL_row_17 (lt_b rfl) rfl (lt_b rfl) rfl ?_
      refine r_iconst hC dL_row_19 ?_
      refine r_iret hC hR dL_row_20 (le_b rfl) (le_b rfl) ?_
      exact ⟨by rw [hi]; rfl, Or.inr ⟨by omega, n, hn, rfl⟩⟩
    | i + 2, hi, hE => simp at hE

abbrev rmL_transaction : Room := { frames := 7, cells := 1, slots := 6, locals := 104 }
set_option maxRecDepth 100000 in
theorem h_transaction {l : Launch} {D : DD} (hfl : l.stackTraces = false) {u : Mem} {x o : Nat} {p0 p1 : Int} (hx : mSh u x = some (.inl 7)) {P : Option SV → Mem → Prop} {q : Int} (hct : CTX l D yX7_transaction cX7_transaction 3 (some .int) rmX7_transaction [xA x, xI p0, xI p1] u (xP q P) (xQ u q [xIO, xIA])) (hP : ∀ r w, P r w → (∃ v : Int, r = some (xI v)) ∧ mSh w o = some (.inr (1, 1))) : CTH l D yL_transaction cL_transaction 5 (some .int) hh_transaction rmL_transaction [xA x, xI p0, xI p1, xA o] u (HP u o q P) := by
  refine CTH.of hfl (by decide) (le_b rfl) ?_
  intro C hC hR hTB hL hDD hN
  show VW C 0 [some (xA x), some (xI p0), some (xI p1), some (xA o), none] [] u 0 0
  refine r_aload_n hC dL_transaction_0 rfl ?_
  refine r_iconst hC dL_transaction_1 ?_
  refine r_aload_n hC dL_transaction_2 rfl ?_
  refine r_iload_n hC dL_transaction_3 rfl ?_
  refine r_iload_n hC dL_transaction_4 rfl ?_
  refine r_callX (as := [xI p0, xI p1]) hC dL_transaction_5 mi_X7_transaction se_X7_transaction ml_L_58 (rm := rmX7_transaction) ⟨le_b rfl, le_b rfl⟩ hx rfl rfl rfl (le_b rfl) (le_b rfl) (le_b rfl) (by rw [hL, hDD]; exact hct) ?_ ?_ rfl
  · rintro r w ⟨hq, hp⟩
    obtain ⟨⟨v, rfl⟩, ho⟩ := hP _ _ hp
    refine r_i2l hC dL_transaction_8 ?_
    refine r_last hC dL_transaction_9 ho ⟨by decide, by decide⟩ ?_
    refine r_goto (t := 21) hC dL_transaction_10 (by rfl) ?_
    refine r_iconst hC dL_transaction_21 ?_
    refine r_iret hC hR dL_transaction_22 (le_b rfl) (le_b rfl) ?_
    exact ⟨by rw [hq], Or.inl ⟨hq, v, w, hp, rfl⟩⟩
  · rintro E e w ⟨⟨i, hi, hE⟩, n, hn, rfl⟩
    match i, hi, hE with
    | 0, hi, hE =>
      cases hE
      refine r_catch (hp := []) (a := 0) (b := 10) (h := 13) (ct := 19) (hs := [(0, 10, 17, 21)]) hC hTB rfl (by decide) (Or.inr (Or.inr rfl)) (by decide) (fun x hx => absurd hx List.not_mem_nil) ?_
      refine r_astore (lv' := [_, _, _, _, _]) hC dL_transaction_13 (lt_b rfl) rfl (lt_b rfl) rfl ?_
      refine r_iconst hC dL_transaction_15 ?_
      refine r_iret hC hR dL_transaction_16 (le_b rfl) (le_b rfl) ?_
      exact ⟨by rw [hi]; rfl, Or.inr ⟨by omega, n, hn, rfl⟩⟩
    | 1, hi, hE =>
      cases hE
      refine r_catch (hp := [(0, 10, 13, 19)]) (a := 0) (b := 10) (h := 17) (ct := 21) (hs := []) hC hTB rfl (by decide) (Or.inr (Or.inl rfl)) (by decide) (fun x hx => by rw [List.mem_singleton] at hx; subst hx; exact ⟨xIO, by decide, by decide⟩) ?_
      refine r_astore (lv' := [_, _, _, _, _]) hC dL_transaction_17 (lt_b rfl) rfl (lt_b rfl) rfl ?_
      refine r_iconst hC dL_transaction_19 ?_
      refine r_iret hC hR dL_transaction_20 (le_b rfl) (le_b rfl) ?_
      exact ⟨by rw [hi]; rfl, Or.inr ⟨by omega, n, hn, rfl⟩⟩
    | i + 2, hi, hE => simp at hE

abbrev rmL_receiver : Room := { frames := 7, cells := 1, slots := 6, locals := 110 }
set_option maxRecDepth 100000 in
theorem h_receiver {l : Launch} {D : DD} (hfl : l.stackTraces = false) {u : Mem} {x o : Nat} {p0 p1 : Int} (hx : mSh u x = some (.inl 7)) {P : Option SV → Mem → Prop} {q : Int} (hct : CTX l D yX7_receiver cX7_receiver 3 (some .int) rmX7_receiver [xA x, xI p0, xI p1] u (xP q P) (xQ u q [xIO, xIA])) (hP : ∀ r w, P r w → (∃ v : Int, r = some (xI v)) ∧ mSh w o = some (.inr (1, 1))) : CTH l D yL_receiver cL_receiver 5 (some .int) hh_receiver rmL_receiver [xA x, xI p0, xI p1, xA o] u (HP u o q P) := by
  refine CTH.of hfl (by decide) (le_b rfl) ?_
  intro C hC hR hTB hL hDD hN
  show VW C 0 [some (xA x), some (xI p0), some (xI p1), some (xA o), none] [] u 0 0
  refine r_aload_n hC dL_receiver_0 rfl ?_
  refine r_iconst hC dL_receiver_1 ?_
  refine r_aload_n hC dL_receiver_2 rfl ?_
  refine r_iload_n hC dL_receiver_3 rfl ?_
  refine r_iload_n hC dL_receiver_4 rfl ?_
  refine r_callX (as := [xI p0, xI p1]) hC dL_receiver_5 mi_X7_receiver se_X7_receiver ml_L_61 (rm := rmX7_receiver) ⟨le_b rfl, le_b rfl⟩ hx rfl rfl rfl (le_b rfl) (le_b rfl) (le_b rfl) (by rw [hL, hDD]; exact hct) ?_ ?_ rfl
  · rintro r w ⟨hq, hp⟩
    obtain ⟨⟨v, rfl⟩, ho⟩ := hP _ _ hp
    refine r_i2l hC dL_receiver_8 ?_
    refine r_last hC dL_receiver_9 ho ⟨by decide, by decide⟩ ?_
    refine r_goto (t := 21) hC dL_receiver_10 (by rfl) ?_
    refine r_iconst hC dL_receiver_21 ?_
    refine r_iret hC hR dL_receiver_22 (le_b rfl) (le_b rfl) ?_
    exact ⟨by rw [hq], Or.inl ⟨hq, v, w, hp, rfl⟩⟩
  · rintro E e w ⟨⟨i, hi, hE⟩, n, hn, rfl⟩
    match i, hi, hE with
    | 0, hi, hE =>
      cases hE
      refine r_catch (hp := []) (a := 0) (b := 10) (h := 13) (ct := 19) (hs := [(0, 10, 17, 21)]) hC hTB rfl (by decide) (Or.inr (Or.inr rfl)) (by decide) (fun x hx => absurd hx List.not_mem_nil) ?_
      refine r_astore (lv' := [_, _, _, _, _]) hC dL_receiver_13 (lt_b rfl) rfl (lt_b rfl) rfl ?_
      refine r_iconst hC dL_receiver_15 ?_
      refine r_iret hC hR dL_receiver_16 (le_b rfl) (le_b rfl) ?_
      exact ⟨by rw [hi]; rfl, Or.inr ⟨by omega, n, hn, rfl⟩⟩
    | 1, hi, hE =>
      cases hE
      refine r_catch (hp := [(0, 10, 13, 19)]) (a := 0) (b := 10) (h := 17) (ct := 21) (hs := []) hC hTB rfl (by decide) (Or.inr (Or.inl rfl)) (by decide) (fun x hx => by rw [List.mem_singleton] at hx; subst hx; exact ⟨xIO, by decide, by decide⟩) ?_
      refine r_astore (lv' := [_, _, _, _, _]) hC dL_receiver_17 (lt_b rfl) rfl (lt_b rfl) rfl ?_
      refine r_iconst hC dL_receiver_19 ?_
      refine r_iret hC hR dL_receiver_20 (le_b rfl) (le_b rfl) ?_
      exact ⟨by rw [hi]; rfl, Or.inr ⟨by omega, n, hn, rfl⟩⟩
    | i + 2, hi, hE => simp at hE

abbrev rmL_message : Room := { frames := 7, cells := 1, slots := 6, locals := 104 }
set_option maxRecDepth 100000 in
theorem h_message {l : Launch} {D : DD} (hfl : l.stackTraces = false) {u : Mem} {x o : Nat} {p0 p1 : Int} (hx : mSh u x = some (.inl 7)) {P : Option SV → Mem → Prop} {q : Int} (hct : CTX l D yX7_message cX7_message 3 (some .int) rmX7_message [xA x, xI p0, xI p1] u (xP q P) (xQ u q [xIO, xIA])) (hP : ∀ r w, P r w → (∃ v : Int, r = some (xI v)) ∧ mSh w o = some (.inr (1, 1))) : CTH l D yL_message cL_message 5 (some .int) hh_message rmL_message [xA x, xI p0, xI p1, xA o] u (HP u o q P) := by
  refine CTH.of hfl (by decide) (le_b rfl) ?_
  intro C hC hR hTB hL hDD hN
  show VW C 0 [some (xA x), some (xI p0), some (xI p1), some (xA o), none] [] u 0 0
  refine r_aload_n hC dL_message_0 rfl ?_
  refine r_iconst hC dL_message_1 ?_
  refine r_aload_n hC dL_message_2 rfl ?_
  refine r_iload_n hC dL_message_3 rfl ?_
  refine r_iload_n hC dL_message_4 rfl ?_
  refine r_callX (as := [xI p0, xI p1]) hC dL_message_5 mi_X7_message se_X7_message ml_L_64 (rm := rmX7_message) ⟨le_b rfl, le_b rfl⟩ hx rfl rfl rfl (le_b rfl) (le_b rfl) (le_b rfl) (by rw [hL, hDD]; exact hct) ?_ ?_ rfl
  · rintro r w ⟨hq, hp⟩
    obtain ⟨⟨v, rfl⟩, ho⟩ := hP _ _ hp
    refine r_i2l hC dL_message_8 ?_
    refine r_last hC dL_message_9 ho ⟨by decide, by decide⟩ ?_
    refine r_goto (t := 21) hC dL_message_10 (by rfl) ?_
    refine r_iconst hC dL_message_21 ?_
    refine r_iret hC hR dL_message_22 (le_b rfl) (le_b rfl) ?_
    exact ⟨by rw [hq], Or.inl ⟨hq, v, w, hp, rfl⟩⟩
  · rintro E e w ⟨⟨i, hi, hE⟩, n, hn, rfl⟩
    match i, hi, hE with
    | 0, hi, hE =>
      cases hE
      refine r_catch (hp := []) (a := 0) (b := 10) (h := 13) (ct := 19) (hs := [(0, 10, 17, 21)]) hC hTB rfl (by decide) (Or.inr (Or.inr rfl)) (by decide) (fun x hx => absurd hx List.not_mem_nil) ?_
      refine r_astore (lv' := [_, _, _, _, _]) hC dL_message_13 (lt_b rfl) rfl (lt_b rfl) rfl ?_
      refine r_iconst hC dL_message_15 ?_
      refine r_iret hC hR dL_message_16 (le_b rfl) (le_b rfl) ?_
      exact ⟨by rw [hi]; rfl, Or.inr ⟨by omega, n, hn, rfl⟩⟩
    | 1, hi, hE =>
      cases hE
      refine r_catch (hp := [(0, 10, 13, 19)]) (a := 0) (b := 10) (h := 17) (ct := 21) (hs := []) hC hTB rfl (by decide) (Or.inr (Or.inl rfl)) (by decide) (fun x hx => by rw [List.mem_singleton] at hx; subst hx; exact ⟨xIO, by decide, by decide⟩) ?_
      refine r_astore (lv' := [_, _, _, _, _]) hC dL_message_17 (lt_b rfl) rfl (lt_b rfl) rfl ?_
      refine r_iconst hC dL_message_19 ?_
      refine r_iret hC hR dL_message_20 (le_b rfl) (le_b rfl) ?_
      exact ⟨by rw [hi]; rfl, Or.inr ⟨by omega, n, hn, rfl⟩⟩
    | i + 2, hi, hE => simp at hE

abbrev rmL_count : Room := { frames := 7, cells := 1, slots := 6, locals := 103 }
set_option maxRecDepth 100000 in
theorem h_count {l : Launch} {D : DD} (hfl : l.stackTraces = false) {u : Mem} {x o : Nat} {p0 : Int} (hx : mSh u x = some (.inl 7)) {P : Option SV → Mem → Prop} {q : Int} (hct : CTX l D yX7_count cX7_count 2 (some .int) rmX7_count [xA x, xI p0] u (xP q P) (xQ u q [xIA])) (hP : ∀ r w, P r w → (∃ v : Int, r = some (xI v)) ∧ mSh w o = some (.inr (1, 1))) : CTH l D yL_count cL_count 4 (some .int) hh_count rmL_count [xA x, xI p0, xA o] u (HP u o q P) := by
  refine CTH.of hfl (by decide) (le_b rfl) ?_
  intro C hC hR hTB hL hDD hN
  show VW C 0 [some (xA x), some (xI p0), some (xA o), none] [] u 0 0
  refine r_aload_n hC dL_count_0 rfl ?_
  refine r_iconst hC dL_count_1 ?_
  refine r_aload_n hC dL_count_2 rfl ?_
  refine r_iload_n hC dL_count_3 rfl ?_
  refine r_callX (as := [xI p0]) hC dL_count_4 mi_X7_count se_X7_count ml_L_67 (rm := rmX7_count) ⟨le_b rfl, le_b rfl⟩ hx rfl rfl rfl (le_b rfl) (le_b rfl) (le_b rfl) (by rw [hL, hDD]; exact hct) ?_ ?_ rfl
  · rintro r w ⟨hq, hp⟩
    obtain ⟨⟨v, rfl⟩, ho⟩ := hP _ _ hp
    refine r_i2l hC dL_count_7 ?_
    refine r_last hC dL_count_8 ho ⟨by decide, by decide⟩ ?_
    refine r_goto (t := 15) hC dL_count_9 (by rfl) ?_
    refine r_iconst hC dL_count_15 ?_
    refine r_iret hC hR dL_count_16 (le_b rfl) (le_b rfl) ?_
    exact ⟨by rw [hq], Or.inl ⟨hq, v, w, hp, rfl⟩⟩
  · rintro E e w ⟨⟨i, hi, hE⟩, n, hn, rfl⟩
    match i, hi, hE with
    | 0, hi, hE =>
      cases hE
      refine r_catch (hp := []) (a := 0) (b := 9) (h := 12) (ct := 21) (hs := []) hC hTB rfl (by decide) (Or.inr (Or.inl rfl)) (by decide) (fun x hx => absurd hx List.not_mem_nil) ?_
      refine r_astore_n (lv' := [_, _, _, _]) hC dL_count_12 (lt_b rfl) rfl (lt_b rfl) rfl ?_
      refine r_iconst hC dL_count_13 ?_
      refine r_iret hC hR dL_count_14 (le_b rfl) (le_b rfl) ?_
      exact ⟨by rw [hi]; rfl, Or.inr ⟨by omega, n, hn, rfl⟩⟩
    | i + 1, hi, hE => simp at hE

abbrev rmL_setting : Room := { frames := 7, cells := 1, slots := 6, locals := 103 }
set_option maxRecDepth 100000 in
theorem h_setting {l : Launch} {D : DD} (hfl : l.stackTraces = false) {u : Mem} {x o : Nat} {p0 : Int} (hx : mSh u x = some (.inl 7)) {P : Option SV → Mem → Prop} {q : Int} (hct : CTX l D yX7_setting cX7_setting 2 (some .int) rmX7_setting [xA x, xI p0] u (xP q P) (xQ u q [xIO])) (hP : ∀ r w, P r w → (∃ v : Int, r = some (xI v)) ∧ mSh w o = some (.inr (1, 1))) : CTH l D yL_setting cL_setting 4 (some .int) hh_setting rmL_setting [xA x, xI p0, xA o] u (HP u o q P) := by
  refine CTH.of hfl (by decide) (le_b rfl) ?_
  intro C hC hR hTB hL hDD hN
  show VW C 0 [some (xA x), some (xI p0), some (xA o), none] [] u 0 0
  refine r_aload_n hC dL_setting_0 rfl ?_
  refine r_iconst hC dL_setting_1 ?_
  refine r_aload_n hC dL_setting_2 rfl ?_
  refine r_iload_n hC dL_setting_3 rfl ?_
  refine r_callX (as := [xI p0]) hC dL_setting_4 mi_X7_setting se_X7_setting ml_L_70 (rm := rmX7_setting) ⟨le_b rfl, le_b rfl⟩ hx rfl rfl rfl (le_b rfl) (le_b rfl) (le_b rfl) (by rw [hL, hDD]; exact hct) ?_ ?_ rfl
  · rintro r w ⟨hq, hp⟩
    obtain ⟨⟨v, rfl⟩, ho⟩ := hP _ _ hp
    refine r_i2l hC dL_setting_7 ?_
    refine r_last hC dL_setting_8 ho ⟨by decide, by decide⟩ ?_
    refine r_goto (t := 15) hC dL_setting_9 (by rfl) ?_
    refine r_iconst hC dL_setting_15 ?_
    refine r_iret hC hR dL_setting_16 (le_b rfl) (le_b rfl) ?_
    exact ⟨by rw [hq], Or.inl ⟨hq, v, w, hp, rfl⟩⟩
  · rintro E e w ⟨⟨i, hi, hE⟩, n, hn, rfl⟩
    match i, hi, hE with
    | 0, hi, hE =>
      cases hE
      refine r_catch (hp := []) (a := 0) (b := 9) (h := 12) (ct := 19) (hs := []) hC hTB rfl (by decide) (Or.inr (Or.inr rfl)) (by decide) (fun x hx => absurd hx List.not_mem_nil) ?_
      refine r_astore_n (lv' := [_, _, _, _]) hC dL_setting_12 (lt_b rfl) rfl (lt_b rfl) rfl ?_
      refine r_iconst hC dL_setting_13 ?_
      refine r_iret hC hR dL_setting_14 (le_b rfl) (le_b rfl) ?_
      exact ⟨by rw [hi]; rfl, Or.inr ⟨by omega, n, hn, rfl⟩⟩
    | i + 1, hi, hE => simp at hE

abbrev rmL_ifPassed : Room := { frames := 7, cells := 147, slots := 2326, locals := 149 }
set_option maxRecDepth 100000 in
theorem h_ifPassed {l : Launch} {D : DD} (hfl : l.stackTraces = false) {u : Mem} {x o : Nat} {p0 p1 p2 : Int} (hx : mSh u x = some (.inl 7)) {P : Option SV → Mem → Prop} {q : Int} (hct : CTX l D yX7_ifPassed cX7_ifPassed 5 (some .int) rmX7_ifPassed [xA x, xI p0, xI p1, xI p2] u (xP q P) (xQ u q [xIO, xIA])) (hP : ∀ r w, P r w → (∃ v : Int, r = some (xI v)) ∧ mSh w o = some (.inr (1, 1))) : CTH l D yL_ifPassed cL_ifPassed 6 (some .int) hh_ifPassed rmL_ifPassed [xA x, xI p0, xI p1, xI p2, xA o] u (HP u o q P) := by
  refine CTH.of hfl (by decide) (le_b rfl) ?_
  intro C hC hR hTB hL hDD hN
  show VW C 0 [some (xA x), some (xI p0), some (xI p1), some (xI p2), some (xA o), none] [] u 0 0
  refine r_aload hC dL_ifPassed_0 rfl ?_
  refine r_iconst hC dL_ifPassed_2 ?_
  refine r_aload_n hC dL_ifPassed_3 rfl ?_
  refine r_iload_n hC dL_ifPassed_4 rfl ?_
  refine r_iload_n hC dL_ifPassed_5 rfl ?_
  refine r_iload_n hC dL_ifPassed_6 rfl ?_
  refine r_callX (as := [xI p0, xI p1, xI p2]) hC dL_ifPassed_7 mi_X7_ifPassed se_X7_ifPassed ml_L_73 (rm := rmX7_ifPassed) ⟨le_b rfl, le_b rfl⟩ hx rfl rfl rfl (le_b rfl) (le_b rfl) (le_b rfl) (by rw [hL, hDD]; exact hct) ?_ ?_ rfl
  · rintro r w ⟨hq, hp⟩
    obtain ⟨⟨v, rfl⟩, ho⟩ := hP _ _ hp
    refine r_i2l hC dL_ifPassed_10 ?_
    refine r_last hC dL_ifPassed_11 ho ⟨by decide, by decide⟩ ?_
    refine r_goto (t := 23) hC dL_ifPassed_12 (by rfl) ?_
    refine r_iconst hC dL_ifPassed_23 ?_
    refine r_iret hC hR dL_ifPassed_24 (le_b rfl) (le_b rfl) ?_
    exact ⟨by rw [hq], Or.inl ⟨hq, v, w, hp, rfl⟩⟩
  · rintro E e w ⟨⟨i, hi, hE⟩, n, hn, rfl⟩
    match i, hi, hE with
    | 0, hi, hE =>
      cases hE
      refine r_catch (hp := []) (a := 0) (b := 12) (h := 15) (ct := 19) (hs := [(0, 12, 19, 21)]) hC hTB rfl (by decide) (Or.inr (Or.inr rfl)) (by decide) (fun x hx => absurd hx List.not_mem_nil) ?_
      refine r_astore (lv' := [_, _, _, _, _, _]) hC dL_ifPassed_15 (lt_b rfl) rfl (lt_b rfl) rfl ?_
      refine r_iconst hC dL_ifPassed_17 ?_
      refine r_iret hC hR dL_ifPassed_18 (le_b rfl) (le_b rfl) ?_
      exact ⟨by rw [hi]; rfl, Or.inr ⟨by omega, n, hn, rfl⟩⟩
    | 1, hi, hE =>
      cases hE
      refine r_catch (hp := [(0, 12, 15, 19)]) (a := 0) (b := 12) (h := 19) (ct := 21) (hs := []) hC hTB rfl (by decide) (Or.inr (Or.inl rfl)) (by decide) (fun x hx => by rw [List.mem_singleton] at hx; subst hx; exact ⟨xIO, by decide, by decide⟩) ?_
      refine r_astore (lv' := [_, _, _, _, _, _]) hC dL_ifPassed_19 (lt_b rfl) rfl (lt_b rfl) rfl ?_
      refine r_iconst hC dL_ifPassed_21 ?_
      refine r_iret hC hR dL_ifPassed_22 (le_b rfl) (le_b rfl) ?_
      exact ⟨by rw [hi]; rfl, Or.inr ⟨by omega, n, hn, rfl⟩⟩
    | i + 2, hi, hE => simp at hE

abbrev rmL_skips : Room := { frames := 7, cells := 1, slots := 6, locals := 104 }
set_option maxRecDepth 100000 in
theorem h_skips {l : Launch} {D : DD} (hfl : l.stackTraces = false) {u : Mem} {x o : Nat} {p0 p1 : Int} (hx : mSh u x = some (.inl 7)) {P : Option SV → Mem → Prop} {q : Int} (hct : CTX l D yX7_skips cX7_skips 3 (some .int) rmX7_skips [xA x, xI p0, xI p1] u (xP q P) (xQ u q [xIO])) (hP : ∀ r w, P r w → (∃ v : Int, r = some (xI v)) ∧ mSh w o = some (.inr (1, 1))) : CTH l D yL_skips cL_skips 5 (some .int) hh_skips rmL_skips [xA x, xI p0, xI p1, xA o] u (HP u o q P) := by
  refine CTH.of hfl (by decide) (le_b rfl) ?_
  intro C hC hR hTB hL hDD hN
  show VW C 0 [some (xA x), some (xI p0), some (xI p1), some (xA o), none] [] u 0 0
  refine r_aload_n hC dL_skips_0 rfl ?_
  refine r_iconst hC dL_skips_1 ?_
  refine r_aload_n hC dL_skips_2 rfl ?_
  refine r_iload_n hC dL_skips_3 rfl ?_
  refine r_iload_n hC dL_skips_4 rfl ?_
  refine r_callX (as := [xI p0, xI p1]) hC dL_skips_5 mi_X7_skips se_X7_skips ml_L_76 (rm := rmX7_skips) ⟨le_b rfl, le_b rfl⟩ hx rfl rfl rfl (le_b rfl) (le_b rfl) (le_b rfl) (by rw [hL, hDD]; exact hct) ?_ ?_ rfl
  · rintro r w ⟨hq, hp⟩
    obtain ⟨⟨v, rfl⟩, ho⟩ := hP _ _ hp
    refine r_i2l hC dL_skips_8 ?_
    refine r_last hC dL_skips_9 ho ⟨by decide, by decide⟩ ?_
    refine r_goto (t := 17) hC dL_skips_10 (by rfl) ?_
    refine r_iconst hC dL_skips_17 ?_
    refine r_iret hC hR dL_skips_18 (le_b rfl) (le_b rfl) ?_
    exact ⟨by rw [hq], Or.inl ⟨hq, v, w, hp, rfl⟩⟩
  · rintro E e w ⟨⟨i, hi, hE⟩, n, hn, rfl⟩
    match i, hi, hE with
    | 0, hi, hE =>
      cases hE
      refine r_catch (hp := []) (a := 0) (b := 10) (h := 13) (ct := 19) (hs := []) hC hTB rfl (by decide) (Or.inr (Or.inr rfl)) (by decide) (fun x hx => absurd hx List.not_mem_nil) ?_
      refine r_astore (lv' := [_, _, _, _, _]) hC dL_skips_13 (lt_b rfl) rfl (lt_b rfl) rfl ?_
      refine r_iconst hC dL_skips_15 ?_
      refine r_iret hC hR dL_skips_16 (le_b rfl) (le_b rfl) ?_
      exact ⟨by rw [hi]; rfl, Or.inr ⟨by omega, n, hn, rfl⟩⟩
    | i + 1, hi, hE => simp at hE

