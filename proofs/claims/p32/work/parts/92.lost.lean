/-! ===== one message is lost ===== -/
theorem rs_lost {u : Mem} {a : Nat} {g : RW} (hS : RS u a g) (hB : IB g) (v : Int) : RS (sI u (a + 34) 3 v) a (up g 5 v) := by
  have hf : Fr u (sI u (a + 34) 3 v) (fun q => q = a + 34) (fun _ => False) := Fr.sI (Fr.refl _ _ _) _ _ rfl
  have e : ∀ j, j ≠ 5 → up g 5 v j = g j := fun j hj => up_n _ _ hj
  refine ⟨hf.stO hS.o, ⟨by rw [hf.mI (by omega), e 0 (by omega)]; exact hS.tick, by rw [hf.mI (by omega), e 1 (by omega)]; exact hS.writ⟩, fun i hi => by rw [hf.mI (by omega), e _ (by omega)]; exact hS.set hi, fun p hp => ?_, ?_, fun d hd => ?_, ?_⟩
  · exact (hS.t hp).keep (fun q h1 h2 => hf.mI (by omega)) (fun j h1 h2 => e j (by omega)) (hB.pl p hp).2.1.2
  · exact hS.r.keep (fun q h1 h2 => hf.mI (by omega)) (fun j hj => e j (by omega)) hB.co.1.2
  · exact (hS.c hd).keep (hf.mI (by omega)) (hf.mI (by omega)) (fun j h1 h2 => e j (by omega)) (by have := (hB.re d hd).2.2.1; omega)
  · obtain ⟨a1, a2, a3, a4, a5, a6, s, a7, a8⟩ := hS.l
    have h9 := hB.ni
    have hw : ∀ (n : Nat) (x : Int), 0 ≤ x → m_way (up g 5 v) n x = m_way g n x := fun n x h0 => way_keep (fun j hj => e j (by omega)) (by omega) h0
    refine ⟨by rw [mI_sI_k _ _ _ _ (by decide), e 9 (by omega)]; exact a1, by rw [mI_sI_k _ _ _ _ (by decide), e 4 (by omega)]; exact a2, by rw [mI_sI_s, up_s], by rw [mI_sI_k _ _ _ _ (by decide), e 6 (by omega)]; exact a4, by rw [mI_sI_k _ _ _ _ (by decide), e 8 (by omega)]; exact a5, by rw [mI_sI_k _ _ _ _ (by decide), e 7 (by omega)]; exact a6, s, ?_, fun j hj => ?_⟩
    · rw [e 9 (by omega)]
      refine ⟨a7.1, a7.2.1, fun i j hij hj => ?_⟩
      have := a7.2.2 i j hij hj
      unfold Lex at *
      rw [hw _ 2 (by decide), hw _ 2 (by decide)]; exact this
    · rw [e 9 (by omega)] at hj
      obtain ⟨m1, m2, m3, m4, m5, m6⟩ := a8 j hj
      have hbq := hS.o.l.bq (j := j) (by omega)
      unfold RSm
      rw [hf.qaE, hf.mI (q := qa u (a + 34) j) (by omega), hf.mI (q := qa u (a + 34) j + 1) (by omega), hw _ 0 (by decide), hw _ 1 (by decide), hw _ 2 (by decide), hw _ 3 (by decide), hw _ 4 (by decide)]
      exact ⟨m1, m2, m3, m4, m5, fun k hk => by rw [rowOf_keep (fun j hj => e j (by omega)) (by omega) (by omega)]; exact m6 k hk⟩
