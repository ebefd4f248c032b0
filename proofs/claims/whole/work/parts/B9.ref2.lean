/-! ===== texts, shares and the digest of the reference ===== -/
theorem e_pm {v : Mem} {m : Nat} {f : RW} {s : Int} {P : RW} {kp : Int} {K b : RW} {n : Int} (hv : RRv v m f s P kp K b n) {a val : Int} {N : RW} : RT2 v m 0 val f s P kp K b n f s P kp K b n (some (xI val)) (sA (pM (sI v m 11 0) m a N) (m + 1) f) := by
  unfold pM
  exact ⟨Fr.sA (Fr.sI (Fr.sA (Fr.sI (Fr.refl _ _ _) _ _ ⟨by omega, by omega⟩) _ ⟨by omega, by omega⟩) _ _ ⟨by omega, by omega⟩) _ ⟨by omega, by omega⟩, by rw [mI_sA_n _ _ (by omega), mI_sI_k _ _ _ _ (by decide), mI_sA_n _ _ (by omega), mI_sI_s]; exact wr_id ⟨by decide, by decide⟩, val, rfl, Or.inl ⟨rfl, rfl, ⟨⟨by rw [mI_sA_f _ _ (rrv_rf hv).1], by rw [mI_sA_n _ _ (by omega), up_mI_n _ _ _ (by omega), mI_sA_n _ _ (by omega), up_mI_n _ _ _ (by omega)]; exact hv.1.2.1, by rw [mI_sA_n _ _ (by omega), up_mI_n _ _ _ (by omega), mI_sA_n _ _ (by omega), up_mI_n _ _ _ (by omega)]; exact hv.1.2.2.1, by rw [mI_sA_n _ _ (by omega), up_mI_n _ _ _ (by omega), mI_sA_n _ _ (by omega), up_mI_n _ _ _ (by omega)]; exact hv.1.2.2.2⟩, by rw [mI_sA_n _ _ (by omega), mI_sI_k _ _ _ _ (by decide), mI_sA_n _ _ (by omega), mI_sI_k _ _ _ _ (by decide)]; exact hv.2.1, by rw [mI_sA_n _ _ (by omega), mI_sI_k _ _ _ _ (by decide), mI_sA_n _ _ (by omega), mI_sI_k _ _ _ _ (by decide)]; exact hv.2.2.1, by rw [mI_sA_n _ _ (by omega), mI_sI_k _ _ _ _ (by decide), mI_sA_n _ _ (by omega), mI_sI_k _ _ _ _ (by decide)]; exact hv.2.2.2⟩⟩⟩
theorem e_first {l : Launch} {D : DD} (hfl : l.stackTraces = false) {v : Mem} {m : Nat} (hM : MO v m) {f : RW} {s : Int} {P : RW} {kp : Int} {K b : RW} {n : Int} (hv : RRv v m f s P kp K b n) (hl : 0 ≤ n ∧ n ≤ 60) : CT l D yX8_firstError cX8_firstError 1 (some .int) rmX8_firstError [xA m] v (RT2 v m 0 (if (p_well b n (mI v (m + 6))).1 = true then n else (p_well b n (mI v (m + 6))).2.1) f s P kp K b n f s P kp K b n) := by
  have h := k_firstError (D := D) hfl hM (rrv_rf hv).1 (by rw [hv.2.2.2]; exact hl)
  rw [rrv_mem hv, hv.2.2.2, hv.1.2.2.2] at h
  refine h.mono fun r w hp => ?_
  by_cases q0 : (p_well b n (mI v (m + 6))).1 = true
  · rw [if_pos q0] at hp ⊢
    obtain ⟨rfl, rfl⟩ := hp
    exact e_pm hv
  · rw [if_neg q0] at hp ⊢
    obtain ⟨rfl, rfl⟩ := hp
    exact e_pm hv
theorem ob_eq {v : Mem} {m : Nat} {f : RW} {s : Int} {P : RW} {kp : Int} {K b : RW} {n : Int} (hv : RRv v m f s P kp K b n) : m_ob1 v m f = sA (sI (sI (sA (sI v m 11 0) (m + 6) (p_well b n (mI v (m + 6))).2.2) m 8 (p_well b n (mI v (m + 6))).2.1) m 4 (m_savedN s)) (m + 2) (m_saved P f s) ∧ m_obey v m f = p_obeyL b n 61 true 0 0 (p_well b n (mI v (m + 6))).2.2 (mI v (m + 7)) f := by
  have e4 : mI (pM (sI v m 11 0) m (p_well b n (mI v (m + 6))).2.1 (p_well b n (mI v (m + 6))).2.2) m 4 = s := by
    unfold pM
    rw [mI_sI_k _ _ _ _ (by decide), mI_sA_n _ _ (by omega), mI_sI_k _ _ _ _ (by decide)]; exact hv.2.1
  have e2 : mI (pM (sI v m 11 0) m (p_well b n (mI v (m + 6))).2.1 (p_well b n (mI v (m + 6))).2.2) (m + 2) = P := by
    unfold pM
    rw [up_mI_n _ _ _ (by omega), mI_sA_n _ _ (by omega), up_mI_n _ _ _ (by omega)]; exact hv.1.2.1
  refine ⟨?_, ?_⟩
  · unfold m_ob1 m_sv
    rw [hv.1.2.2.2, hv.2.2.2, e4, e2]
    rfl
  · unfold m_obey
    rw [hv.1.2.2.2, hv.2.2.2]
theorem e_obey {l : Launch} {D : DD} (hfl : l.stackTraces = false) {v : Mem} {m : Nat} (hM : MO v m) {f : RW} {s : Int} {P : RW} {kp : Int} {K b : RW} {n : Int} (hv : RRv v m f s P kp K b n) (hs : 0 ≤ s ∧ s ≤ 6) (hl : 0 ≤ n ∧ n ≤ 60) (hw : (p_well b n (mI v (m + 6))).1 = true → p_okL b n 61 true 0 (p_well b n (mI v (m + 6))).2.2 (mI v (m + 7)) f) (hg : (p_well b n (mI v (m + 6))).1 = true → RF (p_obeyL b n 61 true 0 0 (p_well b n (mI v (m + 6))).2.2 (mI v (m + 7)) f).2.2.2.2) : CT l D yX8_obey cX8_obey 3 (some .int) rmX8_obey [xA m] v (RT2 v m (if (p_well b n (mI v (m + 6))).1 = true then 0 else 1) (p_obeyL b n 61 true 0 0 (p_well b n (mI v (m + 6))).2.2 (mI v (m + 7)) f).1 f s P kp K b n (p_obeyL b n 61 true 0 0 (p_well b n (mI v (m + 6))).2.2 (mI v (m + 7)) f).2.2.2.2 (m_savedN s) (m_saved P f s) kp K b 0) := by
  have h := k_obeyK (D := D) hfl hM (rrv_rf hv).1 (by rw [hv.2.1]; exact hs) (by rw [hv.2.2.2]; exact hl) (by rw [hv.1.2.2.2, hv.2.2.2]; exact hw)
  rw [rrv_mem hv, hv.1.2.2.2, hv.2.2.2, (ob_eq hv).1, (ob_eq hv).2] at h
  refine h.mono fun r w hp => ?_
  by_cases q0 : (p_well b n (mI v (m + 6))).1 = true
  · rw [if_pos q0] at hp ⊢
    obtain ⟨rfl, rfl⟩ := hp
    unfold pM
    exact ⟨Fr.sA (Fr.sI (Fr.sI (Fr.sA (Fr.sA (Fr.sA (Fr.sI (Fr.sI (Fr.sA (Fr.sI (Fr.refl _ _ _) _ _ ⟨by omega, by omega⟩) _ ⟨by omega, by omega⟩) _ _ ⟨by omega, by omega⟩) _ _ ⟨by omega, by omega⟩) _ ⟨by omega, by omega⟩) _ ⟨by omega, by omega⟩) _ ⟨by omega, by omega⟩) _ _ ⟨by omega, by omega⟩) _ _ ⟨by omega, by omega⟩) _ ⟨by omega, by omega⟩, by rw [mI_sA_n _ _ (by omega), mI_sI_k _ _ _ _ (by decide), mI_sI_k _ _ _ _ (by decide), mI_sA_n _ _ (by omega), mI_sA_n _ _ (by omega), mI_sA_n _ _ (by omega), mI_sI_k _ _ _ _ (by decide), mI_sI_k _ _ _ _ (by decide), mI_sA_n _ _ (by omega), mI_sI_s]; exact wr_id ⟨by decide, by decide⟩, _, rfl, Or.inl ⟨rfl, rfl, ⟨⟨by rw [mI_sA_f _ _ (hg q0)], by rw [mI_sA_n _ _ (by omega), up_mI_n _ _ _ (by omega), up_mI_n _ _ _ (by omega), mI_sA_n _ _ (by omega), mI_sA_n _ _ (by omega), mI_sA_f _ _ (rf_saved (rrv_rf hv).2.1 (rrv_rf hv).1 s)], by rw [mI_sA_n _ _ (by omega), up_mI_n _ _ _ (by omega), up_mI_n _ _ _ (by omega), mI_sA_n _ _ (by omega), mI_sA_n _ _ (by omega), mI_sA_n _ _ (by omega), up_mI_n _ _ _ (by omega), up_mI_n _ _ _ (by omega), mI_sA_n _ _ (by omega), up_mI_n _ _ _ (by omega)]; exact hv.1.2.2.1, by rw [mI_sA_n _ _ (by omega), up_mI_n _ _ _ (by omega), up_mI_n _ _ _ (by omega), mI_sA_n _ _ (by omega), mI_sA_n _ _ (by omega), mI_sA_n _ _ (by omega), up_mI_n _ _ _ (by omega), up_mI_n _ _ _ (by omega), mI_sA_n _ _ (by omega), up_mI_n _ _ _ (by omega)]; exact hv.1.2.2.2⟩, by rw [mI_sA_n _ _ (by omega), mI_sI_k _ _ _ _ (by decide), mI_sI_k _ _ _ _ (by decide), mI_sA_n _ _ (by omega), mI_sA_n _ _ (by omega), mI_sA_n _ _ (by omega), mI_sI_s]; exact wr_id (savedN_rg hs), by rw [mI_sA_n _ _ (by omega), mI_sI_k _ _ _ _ (by decide), mI_sI_k _ _ _ _ (by decide), mI_sA_n _ _ (by omega), mI_sA_n _ _ (by omega), mI_sA_n _ _ (by omega), mI_sI_k _ _ _ _ (by decide), mI_sI_k _ _ _ _ (by decide), mI_sA_n _ _ (by omega), mI_sI_k _ _ _ _ (by decide)]; exact hv.2.2.1, by rw [mI_sA_n _ _ (by omega), mI_sI_s]; exact wr_id ⟨by decide, by decide⟩⟩⟩⟩
  · rw [if_neg q0] at hp ⊢
    obtain ⟨rfl, rfl⟩ := hp
    unfold pM
    exact ⟨Fr.sA (Fr.sI (Fr.sI (Fr.sA (Fr.sI (Fr.refl _ _ _) _ _ ⟨by omega, by omega⟩) _ ⟨by omega, by omega⟩) _ _ ⟨by omega, by omega⟩) _ _ ⟨by omega, by omega⟩) _ ⟨by omega, by omega⟩, by rw [mI_sA_n _ _ (by omega), mI_sI_s]; exact wr_id ⟨by decide, by decide⟩, 0, rfl, Or.inr ⟨by decide, ⟨⟨by rw [mI_sA_f _ _ (rrv_rf hv).1], by rw [mI_sA_n _ _ (by omega), up_mI_n _ _ _ (by omega), up_mI_n _ _ _ (by omega), mI_sA_n _ _ (by omega), up_mI_n _ _ _ (by omega)]; exact hv.1.2.1, by rw [mI_sA_n _ _ (by omega), up_mI_n _ _ _ (by omega), up_mI_n _ _ _ (by omega), mI_sA_n _ _ (by omega), up_mI_n _ _ _ (by omega)]; exact hv.1.2.2.1, by rw [mI_sA_n _ _ (by omega), up_mI_n _ _ _ (by omega), up_mI_n _ _ _ (by omega), mI_sA_n _ _ (by omega), up_mI_n _ _ _ (by omega)]; exact hv.1.2.2.2⟩, by rw [mI_sA_n _ _ (by omega), mI_sI_k _ _ _ _ (by decide), mI_sI_k _ _ _ _ (by decide), mI_sA_n _ _ (by omega), mI_sI_k _ _ _ _ (by decide)]; exact hv.2.1, by rw [mI_sA_n _ _ (by omega), mI_sI_k _ _ _ _ (by decide), mI_sI_k _ _ _ _ (by decide), mI_sA_n _ _ (by omega), mI_sI_k _ _ _ _ (by decide)]; exact hv.2.2.1, by rw [mI_sA_n _ _ (by omega), mI_sI_k _ _ _ _ (by decide), mI_sI_k _ _ _ _ (by decide), mI_sA_n _ _ (by omega), mI_sI_k _ _ _ _ (by decide)]; exact hv.2.2.2⟩⟩⟩
theorem e_good {l : Launch} {D : DD} (hfl : l.stackTraces = false) {v : Mem} {m : Nat} (hM : MO v m) {f : RW} {s : Int} {P : RW} {kp : Int} {K b : RW} {n : Int} (hv : RRv v m f s P kp K b n) {T : Int} (hI : Inv f T) : CT l D yX8_goodShare cX8_goodShare 1 (some .double) rmX8_goodShare [xA m] v (fun r w => r = some (xD (m_good f)) ∧ RF8 v w m ∧ RRv w m f s P kp K b n) := by
  have hG := good_D hI
  have h := k_goodShare (D := D) hfl hM (rrv_rf hv).1 (fun z => by
    have e : m_good f = FP.ddiv (FP.i2d (Int32.ofInt (f 4 - f 5))) (FP.i2d (Int32.ofInt (f 4))) := by unfold m_good; rw [if_neg z]
    rw [← e]; exact hG.nn)
  rw [rrv_mem hv] at h
  refine h.mono fun r w hp => ?_
  obtain ⟨rfl, rfl⟩ := hp
  exact ⟨rfl, e_lookF hv⟩
theorem e_mean {l : Launch} {D : DD} (hfl : l.stackTraces = false) {v : Mem} {m : Nat} (hM : MO v m) {f : RW} {s : Int} {P : RW} {kp : Int} {K b : RW} {n : Int} (hv : RRv v m f s P kp K b n) {T : Int} (hI : Inv f T) : CT l D yX8_meanBatch cX8_meanBatch 1 (some .float) rmX8_meanBatch [xA m] v (fun r w => r = some (xF (m_mean f)) ∧ RF8 v w m ∧ RRv w m f s P kp K b n) := by
  have hG := mean_F hI
  have h := k_meanBatch (D := D) hfl hM (rrv_rf hv).1 (fun z => by
    have e : m_mean f = FP.fdiv (FP.i2f (Int32.ofInt (f 8))) (FP.i2f (Int32.ofInt (f 6))) := by unfold m_mean; rw [if_neg z]
    rw [← e]; exact hG.nn)
  rw [rrv_mem hv] at h
  refine h.mono fun r w hp => ?_
  obtain ⟨rfl, rfl⟩ := hp
  exact ⟨rfl, e_lookF hv⟩
theorem e_digest {l : Launch} {D : DD} (hfl : l.stackTraces = false) {v : Mem} {m : Nat} (hM : MO v m) {f : RW} {s : Int} {P : RW} {kp : Int} {K b : RW} {n : Int} (hv : RRv v m f s P kp K b n) (hl : 0 ≤ n ∧ n ≤ 60) (hd : DigOK f) : CT l D yX8_digest cX8_digest 5 (some .long) rmX8_digest [xA m] v (fun r w => r = some (xJ (m_dig5 b n (m_dig4 f kp (gN (m_hMsg f) (f 9).toNat (m_dig2 f (m_dig1 f s)))))) ∧ RF8 v w m ∧ RRv w m f s P kp K b n) := by
  have h := k_digest (D := D) hfl hM (rrv_rf hv).1 (by rw [hv.2.2.2]; exact hl) hd
  rw [rrv_mem hv] at h
  refine h.mono fun r w hp => ?_
  obtain ⟨rfl, A, B, hA, hB, rfl⟩ := hp
  refine ⟨?_, e_tryF hv hA hB⟩
  unfold m_digest
  rw [hv.1.2.2.2, hv.2.2.2, hv.2.2.1, hv.2.1]
