/-- one saved one fewer -/
theorem RX.pop {u : Mem} {x : Nat} {f : RW} {s : Int} {P : RW} {kp : Int} {K : RW} {T : Int} (h : RX u x f s P kp K T) (h1 : 0 < s) : RX (sI u x 3 (s - 1)) x f (s - 1) P kp K T ∧ Kp u (sI u x 3 (s - 1)) x ∧ TxS u (sI u x 3 (s - 1)) x := by
  obtain ⟨ho, hq, ⟨hS, hI⟩, ⟨s1, s2, s3⟩, hk⟩ := h
  have gI : ∀ q, q ≠ x → mI (sI u x 3 (s - 1)) q = mI u q := fun q hq => up_mI_n _ _ _ hq
  have hlo : ∀ a n, x < a → Lo u (sI u x 3 (s - 1)) a n := fun a n ha q h1 h2 => ⟨rfl, gI q (by omega), rfl⟩
  refine ⟨⟨ho, hq, ⟨hS.loc hI.b (hlo _ _ (by omega)), hI⟩, ⟨by rw [mI_sI_s]; exact wr_id ⟨by omega, by omega⟩, by omega, fun k hk' => ?_⟩, ?_⟩, (Kp.refl u x).sI 3 _, fun q q1 q2 => gI q (by omega)⟩
  · obtain ⟨b, b1, b2, b3⟩ := s3 k (by omega)
    have hbx := (hq.2.1 k (by omega) b b1).1.1
    exact ⟨b, b1, b2.loc b3.b (hlo b 146 (by omega)), b3⟩
  · rcases hk with ⟨k1, k2⟩ | ⟨k1, b, b1, b2, b3⟩
    · exact Or.inl ⟨k1, k2⟩
    · have hbx := (hq.2.1 6 (by decide) b b1).1.1
      exact Or.inr ⟨k1, b, b1, b2.loc b3.b (hlo b 146 (by omega)), b3⟩
/-- now says what the block at a says -/
theorem RX.back {u w : Mem} {x : Nat} {f g : RW} {s : Int} {P : RW} {kp : Int} {K : RW} {T : Int} (h : RX u x f s P kp K T) (rf : RF f) (hw : RS w (x + 1) g) (hI : Inv g T) (hf : Fr u w (fun q => x + 1 ≤ q ∧ q < x + 1 + 146) (fun _ => False)) : RX w x (cp f g 1651) s P kp K T ∧ Kp u w x ∧ TxS u w x :=
  h.now (hf.blk (fun q hq => hq)) (rs_cg hw hI (cp_cg f g)) (inv_cg hI (cp_cg f g) (rf_cp rf hI.rf _)) (Int.le_refl _)
abbrev rmX7_goBack : Room := { frames := 6, cells := 146, slots := 2320, locals := 127 }
abbrev rmX7_undo : Room := { frames := 6, cells := 1, slots := 6, locals := 105 }
abbrev rmX7_append : Room := { frames := 6, cells := 1, slots := 6, locals := 82 }
