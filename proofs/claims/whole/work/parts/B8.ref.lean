/-! ===== the reference's calls, seen from the row ===== -/
theorem rrv_mem {v : Mem} {m : Nat} {f : RW} {s : Int} {P : RW} {kp : Int} {K b : RW} {n : Int} (hv : RRv v m f s P kp K b n) : sA v (m + 1) f = v := by rw [← hv.1.1, sA_mI]
theorem rrv_rf {v : Mem} {m : Nat} {f : RW} {s : Int} {P : RW} {kp : Int} {K b : RW} {n : Int} (hv : RRv v m f s P kp K b n) : RF f ∧ RF P ∧ RF K ∧ RF b := ⟨by rw [← hv.1.1]; exact rf_mI _ _, by rw [← hv.1.2.1]; exact rf_mI _ _, by rw [← hv.1.2.2.1]; exact rf_mI _ _, by rw [← hv.1.2.2.2]; exact rf_mI _ _⟩
theorem sv_eq {v : Mem} {m : Nat} {f : RW} {s : Int} {P : RW} {kp : Int} {K b : RW} {n : Int} (hv : RRv v m f s P kp K b n) : m_sv (sI v m 11 0) m f = sA (sI (sI v m 11 0) m 4 (m_savedN s)) (m + 2) (m_saved P f s) := by
  unfold m_sv
  rw [mI_sI_k _ _ _ _ (by decide), up_mI_n _ _ _ (by omega), hv.2.1, hv.1.2.1]
theorem savedN_rg {s : Int} (h : 0 ≤ s ∧ s ≤ 6) : rg (m_savedN s) := by unfold m_savedN; split <;> exact ⟨by omega, by omega⟩
theorem e_no {v : Mem} {m : Nat} {f : RW} {s : Int} {P : RW} {kp : Int} {K b : RW} {n : Int} (hv : RRv v m f s P kp K b n) {q val : Int} {g : RW} {s1 : Int} {P1 : RW} {kp1 : Int} {K1 b1 : RW} {n1 : Int} (hq : rg q) (hne : q ≠ 0) : RT2 v m q val f s P kp K b n g s1 P1 kp1 K1 b1 n1 (some (xI 0)) (sA (sI v m 11 q) (m + 1) f) :=
  ⟨Fr.sA (Fr.sI (Fr.refl _ _ _) _ _ ⟨by omega, by omega⟩) _ ⟨by omega, by omega⟩, by rw [mI_sA_n _ _ (by omega), mI_sI_s]; exact wr_id hq, 0, rfl, Or.inr ⟨hne, ⟨⟨by rw [mI_sA_f _ _ (rrv_rf hv).1], by rw [mI_sA_n _ _ (by omega), up_mI_n _ _ _ (by omega)]; exact hv.1.2.1, by rw [mI_sA_n _ _ (by omega), up_mI_n _ _ _ (by omega)]; exact hv.1.2.2.1, by rw [mI_sA_n _ _ (by omega), up_mI_n _ _ _ (by omega)]; exact hv.1.2.2.2⟩, by rw [mI_sA_n _ _ (by omega), mI_sI_k _ _ _ _ (by decide)]; exact hv.2.1, by rw [mI_sA_n _ _ (by omega), mI_sI_k _ _ _ _ (by decide)]; exact hv.2.2.1, by rw [mI_sA_n _ _ (by omega), mI_sI_k _ _ _ _ (by decide)]; exact hv.2.2.2⟩⟩⟩
theorem e_look {v : Mem} {m : Nat} {f : RW} {s : Int} {P : RW} {kp : Int} {K b : RW} {n : Int} (hv : RRv v m f s P kp K b n) {val : Int} : RT2 v m 0 val f s P kp K b n f s P kp K b n (some (xI val)) (sA (sI v m 11 0) (m + 1) f) :=
  ⟨Fr.sA (Fr.sI (Fr.refl _ _ _) _ _ ⟨by omega, by omega⟩) _ ⟨by omega, by omega⟩, by rw [mI_sA_n _ _ (by omega), mI_sI_s]; exact wr_id ⟨by decide, by decide⟩, val, rfl, Or.inl ⟨rfl, rfl, ⟨⟨by rw [mI_sA_f _ _ (rrv_rf hv).1], by rw [mI_sA_n _ _ (by omega), up_mI_n _ _ _ (by omega)]; exact hv.1.2.1, by rw [mI_sA_n _ _ (by omega), up_mI_n _ _ _ (by omega)]; exact hv.1.2.2.1, by rw [mI_sA_n _ _ (by omega), up_mI_n _ _ _ (by omega)]; exact hv.1.2.2.2⟩, by rw [mI_sA_n _ _ (by omega), mI_sI_k _ _ _ _ (by decide)]; exact hv.2.1, by rw [mI_sA_n _ _ (by omega), mI_sI_k _ _ _ _ (by decide)]; exact hv.2.2.1, by rw [mI_sA_n _ _ (by omega), mI_sI_k _ _ _ _ (by decide)]; exact hv.2.2.2⟩⟩⟩
theorem e_sv {v : Mem} {m : Nat} {f : RW} {s : Int} {P : RW} {kp : Int} {K b : RW} {n : Int} (hv : RRv v m f s P kp K b n) (hs : 0 ≤ s ∧ s ≤ 6) {val : Int} {g : RW} (hg : RF g) : RT2 v m 0 val f s P kp K b n g (m_savedN s) (m_saved P f s) kp K b n (some (xI val)) (sA (m_sv (sI v m 11 0) m f) (m + 1) g) := by
  rw [sv_eq hv]
  exact ⟨Fr.sA (Fr.sA (Fr.sI (Fr.sI (Fr.refl _ _ _) _ _ ⟨by omega, by omega⟩) _ _ ⟨by omega, by omega⟩) _ ⟨by omega, by omega⟩) _ ⟨by omega, by omega⟩, by rw [mI_sA_n _ _ (by omega), mI_sA_n _ _ (by omega), mI_sI_k _ _ _ _ (by decide), mI_sI_s]; exact wr_id ⟨by decide, by decide⟩, val, rfl, Or.inl ⟨rfl, rfl, ⟨⟨by rw [mI_sA_f _ _ hg], by rw [mI_sA_n _ _ (by omega), mI_sA_f _ _ (rf_saved (rrv_rf hv).2.1 (rrv_rf hv).1 s)], by rw [mI_sA_n _ _ (by omega), mI_sA_n _ _ (by omega), up_mI_n _ _ _ (by omega), up_mI_n _ _ _ (by omega)]; exact hv.1.2.2.1, by rw [mI_sA_n _ _ (by omega), mI_sA_n _ _ (by omega), up_mI_n _ _ _ (by omega), up_mI_n _ _ _ (by omega)]; exact hv.1.2.2.2⟩, by rw [mI_sA_n _ _ (by omega), mI_sA_n _ _ (by omega), mI_sI_s]; exact wr_id (savedN_rg hs), by rw [mI_sA_n _ _ (by omega), mI_sA_n _ _ (by omega), mI_sI_k _ _ _ _ (by decide), mI_sI_k _ _ _ _ (by decide)]; exact hv.2.2.1, by rw [mI_sA_n _ _ (by omega), mI_sA_n _ _ (by omega), mI_sI_k _ _ _ _ (by decide), mI_sI_k _ _ _ _ (by decide)]; exact hv.2.2.2⟩⟩⟩
theorem e_svB {v : Mem} {m : Nat} {f : RW} {s : Int} {P : RW} {kp : Int} {K b : RW} {n : Int} (hv : RRv v m f s P kp K b n) (hs : 0 ≤ s ∧ s ≤ 6) {val : Int} {g B : RW} (hg : RF g) (hB : RF B) : RT2 v m 0 val f s P kp K b n g (m_savedN s) (m_saved P f s) kp K b n (some (xI val)) (sA (sA (m_sv (sI v m 11 0) m f) (m + 7) B) (m + 1) g) := by
  rw [sv_eq hv]
  exact ⟨Fr.sA (Fr.sA (Fr.sA (Fr.sI (Fr.sI (Fr.refl _ _ _) _ _ ⟨by omega, by omega⟩) _ _ ⟨by omega, by omega⟩) _ ⟨by omega, by omega⟩) _ ⟨by omega, by omega⟩) _ ⟨by omega, by omega⟩, by rw [mI_sA_n _ _ (by omega), mI_sA_n _ _ (by omega), mI_sA_n _ _ (by omega), mI_sI_k _ _ _ _ (by decide), mI_sI_s]; exact wr_id ⟨by decide, by decide⟩, val, rfl, Or.inl ⟨rfl, rfl, ⟨⟨by rw [mI_sA_f _ _ hg], by rw [mI_sA_n _ _ (by omega), mI_sA_n _ _ (by omega), mI_sA_f _ _ (rf_saved (rrv_rf hv).2.1 (rrv_rf hv).1 s)], by rw [mI_sA_n _ _ (by omega), mI_sA_n _ _ (by omega), mI_sA_n _ _ (by omega), up_mI_n _ _ _ (by omega), up_mI_n _ _ _ (by omega)]; exact hv.1.2.2.1, by rw [mI_sA_n _ _ (by omega), mI_sA_n _ _ (by omega), mI_sA_n _ _ (by omega), up_mI_n _ _ _ (by omega), up_mI_n _ _ _ (by omega)]; exact hv.1.2.2.2⟩, by rw [mI_sA_n _ _ (by omega), mI_sA_n _ _ (by omega), mI_sA_n _ _ (by omega), mI_sI_s]; exact wr_id (savedN_rg hs), by rw [mI_sA_n _ _ (by omega), mI_sA_n _ _ (by omega), mI_sA_n _ _ (by omega), mI_sI_k _ _ _ _ (by decide), mI_sI_k _ _ _ _ (by decide)]; exact hv.2.2.1, by rw [mI_sA_n _ _ (by omega), mI_sA_n _ _ (by omega), mI_sA_n _ _ (by omega), mI_sI_k _ _ _ _ (by decide), mI_sI_k _ _ _ _ (by decide)]; exact hv.2.2.2⟩⟩⟩
theorem e_try {v : Mem} {m : Nat} {f : RW} {s : Int} {P : RW} {kp : Int} {K b : RW} {n : Int} (hv : RRv v m f s P kp K b n) {val : Int} {A B : RW} (hA : RF A) (hB : RF B) : RT2 v m 0 val f s P kp K b n f s P kp K b n (some (xI val)) (sA (sA (sA (sI v m 11 0) (m + 4) A) (m + 7) B) (m + 1) f) :=
  ⟨Fr.sA (Fr.sA (Fr.sA (Fr.sI (Fr.refl _ _ _) _ _ ⟨by omega, by omega⟩) _ ⟨by omega, by omega⟩) _ ⟨by omega, by omega⟩) _ ⟨by omega, by omega⟩, by rw [mI_sA_n _ _ (by omega), mI_sA_n _ _ (by omega), mI_sA_n _ _ (by omega), mI_sI_s]; exact wr_id ⟨by decide, by decide⟩, val, rfl, Or.inl ⟨rfl, rfl, ⟨⟨by rw [mI_sA_f _ _ (rrv_rf hv).1], by rw [mI_sA_n _ _ (by omega), mI_sA_n _ _ (by omega), mI_sA_n _ _ (by omega), up_mI_n _ _ _ (by omega)]; exact hv.1.2.1, by rw [mI_sA_n _ _ (by omega), mI_sA_n _ _ (by omega), mI_sA_n _ _ (by omega), up_mI_n _ _ _ (by omega)]; exact hv.1.2.2.1, by rw [mI_sA_n _ _ (by omega), mI_sA_n _ _ (by omega), mI_sA_n _ _ (by omega), up_mI_n _ _ _ (by omega)]; exact hv.1.2.2.2⟩, by rw [mI_sA_n _ _ (by omega), mI_sA_n _ _ (by omega), mI_sA_n _ _ (by omega), mI_sI_k _ _ _ _ (by decide)]; exact hv.2.1, by rw [mI_sA_n _ _ (by omega), mI_sA_n _ _ (by omega), mI_sA_n _ _ (by omega), mI_sI_k _ _ _ _ (by decide)]; exact hv.2.2.1, by rw [mI_sA_n _ _ (by omega), mI_sA_n _ _ (by omega), mI_sA_n _ _ (by omega), mI_sI_k _ _ _ _ (by decide)]; exact hv.2.2.2⟩⟩⟩
/-- .. with no number -/
theorem e_tryF {v : Mem} {m : Nat} {f : RW} {s : Int} {P : RW} {kp : Int} {K b : RW} {n : Int} (hv : RRv v m f s P kp K b n) {A B : RW} (hA : RF A) (hB : RF B) : RF8 v (sA (sA (sA (sI v m 11 0) (m + 4) A) (m + 7) B) (m + 1) f) m ∧ RRv (sA (sA (sA (sI v m 11 0) (m + 4) A) (m + 7) B) (m + 1) f) m f s P kp K b n :=
  ⟨Fr.sA (Fr.sA (Fr.sA (Fr.sI (Fr.refl _ _ _) _ _ ⟨by omega, by omega⟩) _ ⟨by omega, by omega⟩) _ ⟨by omega, by omega⟩) _ ⟨by omega, by omega⟩, ⟨⟨by rw [mI_sA_f _ _ (rrv_rf hv).1], by rw [mI_sA_n _ _ (by omega), mI_sA_n _ _ (by omega), mI_sA_n _ _ (by omega), up_mI_n _ _ _ (by omega)]; exact hv.1.2.1, by rw [mI_sA_n _ _ (by omega), mI_sA_n _ _ (by omega), mI_sA_n _ _ (by omega), up_mI_n _ _ _ (by omega)]; exact hv.1.2.2.1, by rw [mI_sA_n _ _ (by omega), mI_sA_n _ _ (by omega), mI_sA_n _ _ (by omega), up_mI_n _ _ _ (by omega)]; exact hv.1.2.2.2⟩, by rw [mI_sA_n _ _ (by omega), mI_sA_n _ _ (by omega), mI_sA_n _ _ (by omega), mI_sI_k _ _ _ _ (by decide)]; exact hv.2.1, by rw [mI_sA_n _ _ (by omega), mI_sA_n _ _ (by omega), mI_sA_n _ _ (by omega), mI_sI_k _ _ _ _ (by decide)]; exact hv.2.2.1, by rw [mI_sA_n _ _ (by omega), mI_sA_n _ _ (by omega), mI_sA_n _ _ (by omega), mI_sI_k _ _ _ _ (by decide)]; exact hv.2.2.2⟩⟩
theorem e_lookF {v : Mem} {m : Nat} {f : RW} {s : Int} {P : RW} {kp : Int} {K b : RW} {n : Int} (hv : RRv v m f s P kp K b n) : RF8 v (sA (sI v m 11 0) (m + 1) f) m ∧ RRv (sA (sI v m 11 0) (m + 1) f) m f s P kp K b n :=
  ⟨Fr.sA (Fr.sI (Fr.refl _ _ _) _ _ ⟨by omega, by omega⟩) _ ⟨by omega, by omega⟩, ⟨⟨by rw [mI_sA_f _ _ (rrv_rf hv).1], by rw [mI_sA_n _ _ (by omega), up_mI_n _ _ _ (by omega)]; exact hv.1.2.1, by rw [mI_sA_n _ _ (by omega), up_mI_n _ _ _ (by omega)]; exact hv.1.2.2.1, by rw [mI_sA_n _ _ (by omega), up_mI_n _ _ _ (by omega)]; exact hv.1.2.2.2⟩, by rw [mI_sA_n _ _ (by omega), mI_sI_k _ _ _ _ (by decide)]; exact hv.2.1, by rw [mI_sA_n _ _ (by omega), mI_sI_k _ _ _ _ (by decide)]; exact hv.2.2.1, by rw [mI_sA_n _ _ (by omega), mI_sI_k _ _ _ _ (by decide)]; exact hv.2.2.2⟩⟩
theorem e_begin {l : Launch} {D : DD} (hfl : l.stackTraces = false) {v : Mem} {m : Nat} (hM : MO v m) {f : RW} {s : Int} {P : RW} {kp : Int} {K b : RW} {n : Int} (hv : RRv v m f s P kp K b n) (hs : 0 ≤ s ∧ s ≤ 6)  (hg : q_begin f = 0 → RF (m_begins f)) : CT l D yX8_begin cX8_begin 1 (some .int) rmX8_begin [xA m] v (RT2 v m (q_begin f) (m_free f) f s P kp K b n (m_begins f) (m_savedN s) (m_saved P f s) kp K b n) := by
  have h := k_begin (D := D) hfl hM (rrv_rf hv).1 (by rw [hv.2.1]; exact hs)
  rw [rrv_mem hv] at h
  refine h.mono fun r w hp => ?_
  unfold m_pub at hp
  by_cases q0 : q_begin f = 0
  · rw [if_neg (fun z => z q0)] at hp
    obtain ⟨rfl, rfl⟩ := hp
    rw [q0]
    exact e_sv hv hs (hg q0)
  · rw [if_pos q0] at hp
    obtain ⟨rfl, rfl⟩ := hp
    exact e_no hv (by unfold q_begin; (repeat' split) <;> exact ⟨by decide, by decide⟩) q0
theorem e_write {l : Launch} {D : DD} (hfl : l.stackTraces = false) {v : Mem} {m : Nat} (hM : MO v m) {f : RW} {s : Int} {P : RW} {kp : Int} {K b : RW} {n : Int} (hv : RRv v m f s P kp K b n) (hs : 0 ≤ s ∧ s ≤ 6) {p t x : Int} (hp : rg p) (ht : rg t) (hx : rg x) (hn1 : m_open f p = true → 0 ≤ m_its f p 1 ∧ m_its f p 1 ≤ 6) (hg : q_write f p t x = 0 → RF (m_writes f p t x)) : CT l D yX8_write cX8_write 4 (some .int) rmX8_write [xA m, xI p, xI t, xI x] v (RT2 v m (q_write f p t x) (m_writesC f p t x) f s P kp K b n (m_writes f p t x) (m_savedN s) (m_saved P f s) kp K b n) := by
  have h := k_write (D := D) hfl hM (rrv_rf hv).1 (by rw [hv.2.1]; exact hs) hp ht hx hn1
  rw [rrv_mem hv] at h
  refine h.mono fun r w hp => ?_
  unfold m_pub at hp
  by_cases q0 : q_write f p t x = 0
  · rw [if_neg (fun z => z q0)] at hp
    obtain ⟨rfl, rfl⟩ := hp
    rw [q0]
    exact e_sv hv hs (hg q0)
  · rw [if_pos q0] at hp
    obtain ⟨rfl, rfl⟩ := hp
    exact e_no hv (by unfold q_write; (repeat' split) <;> exact ⟨by decide, by decide⟩) q0
theorem e_commit {l : Launch} {D : DD} (hfl : l.stackTraces = false) {v : Mem} {m : Nat} (hM : MO v m) {f : RW} {s : Int} {P : RW} {kp : Int} {K b : RW} {n : Int} (hv : RRv v m f s P kp K b n) (hs : 0 ≤ s ∧ s ≤ 6) {p : Int} (hp : rg p) (h2 : 0 ≤ f 2 ∧ f 2 ≤ 200) (h3 : 0 ≤ f 3 ∧ f 3 ≤ f 2) (hn1 : m_open f p = true → 0 ≤ m_its f p 1 ∧ m_its f p 1 ≤ 6) (hg : q_commit f p = 0 → RF (m_commits f p)) : CT l D yX8_commit cX8_commit 2 (some .int) rmX8_commit [xA m, xI p] v (RT2 v m (q_commit f p) (m_commitsC f p) f s P kp K b n (m_commits f p) (m_savedN s) (m_saved P f s) kp K b n) := by
  have h := k_commit (D := D) hfl hM (rrv_rf hv).1 (by rw [hv.2.1]; exact hs) h2 h3 hp hn1
  rw [rrv_mem hv] at h
  refine h.mono fun r w hp => ?_
  unfold m_pub at hp
  by_cases q0 : q_commit f p = 0
  · rw [if_neg (fun z => z q0)] at hp
    obtain ⟨rfl, rfl⟩ := hp
    rw [q0]
    exact e_sv hv hs (hg q0)
  · rw [if_pos q0] at hp
    obtain ⟨rfl, rfl⟩ := hp
    exact e_no hv (by unfold q_commit; (repeat' split) <;> exact ⟨by decide, by decide⟩) q0
theorem e_drop {l : Launch} {D : DD} (hfl : l.stackTraces = false) {v : Mem} {m : Nat} (hM : MO v m) {f : RW} {s : Int} {P : RW} {kp : Int} {K b : RW} {n : Int} (hv : RRv v m f s P kp K b n) (hs : 0 ≤ s ∧ s ≤ 6) {p : Int} (hp : rg p) (hg : q_drop f p = 0 → RF (m_drops f p)) : CT l D yX8_drop cX8_drop 2 (some .int) rmX8_drop [xA m, xI p] v (RT2 v m (q_drop f p) (m_dropsC f p) f s P kp K b n (m_drops f p) (m_savedN s) (m_saved P f s) kp K b n) := by
  have h := k_drop (D := D) hfl hM (rrv_rf hv).1 (by rw [hv.2.1]; exact hs) hp
  rw [rrv_mem hv] at h
  refine h.mono fun r w hp => ?_
  unfold m_pub at hp
  by_cases q0 : q_drop f p = 0
  · rw [if_neg (fun z => z q0)] at hp
    obtain ⟨rfl, rfl⟩ := hp
    rw [q0]
    exact e_sv hv hs (hg q0)
  · rw [if_pos q0] at hp
    obtain ⟨rfl, rfl⟩ := hp
    exact e_no hv (by unfold q_drop; (repeat' split) <;> exact ⟨by decide, by decide⟩) q0
theorem e_want {l : Launch} {D : DD} (hfl : l.stackTraces = false) {v : Mem} {m : Nat} (hM : MO v m) {f : RW} {s : Int} {P : RW} {kp : Int} {K b : RW} {n : Int} (hv : RRv v m f s P kp K b n) (hs : 0 ≤ s ∧ s ≤ 6) {c t : Int} (hc : rg c) (ht : rg t) (hg : q_want c t = 0 → RF (up f (697 + 38 * c + 0) t)) : CT l D yX8_want cX8_want 4 (some .int) rmX8_want [xA m, xI c, xI t] v (RT2 v m (q_want c t) (m_of f c 0) f s P kp K b n (up f (697 + 38 * c + 0) t) (m_savedN s) (m_saved P f s) kp K b n) := by
  have h := k_want (D := D) hfl hM (rrv_rf hv).1 (by rw [hv.2.1]; exact hs) hc ht
  rw [rrv_mem hv] at h
  refine h.mono fun r w hp => ?_
  unfold m_pub at hp
  by_cases q0 : q_want c t = 0
  · rw [if_neg (fun z => z q0)] at hp
    obtain ⟨rfl, rfl⟩ := hp
    rw [q0]
    exact e_sv hv hs (hg q0)
  · rw [if_pos q0] at hp
    obtain ⟨rfl, rfl⟩ := hp
    exact e_no hv (by unfold q_want; (repeat' split) <;> exact ⟨by decide, by decide⟩) q0
theorem e_lose {l : Launch} {D : DD} (hfl : l.stackTraces = false) {v : Mem} {m : Nat} (hM : MO v m) {f : RW} {s : Int} {P : RW} {kp : Int} {K b : RW} {n : Int} (hv : RRv v m f s P kp K b n) (hs : 0 ≤ s ∧ s ≤ 6) (h9 : 0 ≤ f 9 ∧ f 9 ≤ 100) (hr : f 9 ≠ 0 → 0 ≤ m_ranked f 0 ∧ m_ranked f 0 < f 9) (hg : q_lose f = 0 → RF (m_lose f)) : CT l D yX8_lose cX8_lose 1 (some .int) rmX8_lose [xA m] v (RT2 v m (q_lose f) ((m_lose f) 9) f s P kp K b n (m_lose f) (m_savedN s) (m_saved P f s) kp K b n) := by
  have h := k_lose (D := D) hfl hM (rrv_rf hv).1 (by rw [hv.2.1]; exact hs) h9 hr
  rw [rrv_mem hv] at h
  refine h.mono fun r w hp => ?_
  unfold m_pub at hp
  by_cases q0 : q_lose f = 0
  · rw [if_neg (fun z => z q0)] at hp
    obtain ⟨rfl, rfl⟩ := hp
    rw [q0]
    exact e_sv hv hs (hg q0)
  · rw [if_pos q0] at hp
    obtain ⟨rfl, rfl⟩ := hp
    exact e_no hv (by unfold q_lose; (repeat' split) <;> exact ⟨by decide, by decide⟩) q0
theorem e_set {l : Launch} {D : DD} (hfl : l.stackTraces = false) {v : Mem} {m : Nat} (hM : MO v m) {f : RW} {s : Int} {P : RW} {kp : Int} {K b : RW} {n : Int} (hv : RRv v m f s P kp K b n) (hs : 0 ≤ s ∧ s ≤ 6) {i x : Int} (hi : rg i) (hx : rg x) (hg : q_set f i x = 0 → RF (up f (10 + i) x)) : CT l D yX8_set cX8_set 4 (some .int) rmX8_set [xA m, xI i, xI x] v (RT2 v m (q_set f i x) (f (10 + i)) f s P kp K b n (up f (10 + i) x) (m_savedN s) (m_saved P f s) kp K b n) := by
  have h := k_set (D := D) hfl hM (rrv_rf hv).1 (by rw [hv.2.1]; exact hs) hi hx
  rw [rrv_mem hv] at h
  refine h.mono fun r w hp => ?_
  unfold m_pub at hp
  by_cases q0 : q_set f i x = 0
  · rw [if_neg (fun z => z q0)] at hp
    obtain ⟨rfl, rfl⟩ := hp
    rw [q0]
    exact e_sv hv hs (hg q0)
  · rw [if_pos q0] at hp
    obtain ⟨rfl, rfl⟩ := hp
    exact e_no hv (by unfold q_set; (repeat' split) <;> exact ⟨by decide, by decide⟩) q0
theorem e_sweep {l : Launch} {D : DD} (hfl : l.stackTraces = false) {v : Mem} {m : Nat} (hM : MO v m) {f : RW} {s : Int} {P : RW} {kp : Int} {K b : RW} {n : Int} (hv : RRv v m f s P kp K b n) (hs : 0 ≤ s ∧ s ≤ 6) (h2 : 0 ≤ f 2 ∧ f 2 ≤ 200) (hg : q_pass 1 = 0 → RF (m_sweeps f)) : CT l D yX8_sweep cX8_sweep 1 (some .int) rmX8_sweep [xA m] v (RT2 v m (q_pass 1) (m_sweepsC f) f s P kp K b n (m_sweeps f) (m_savedN s) (m_saved P f s) kp K b n) := by
  have h := k_sweep (D := D) hfl hM (rrv_rf hv).1 (by rw [hv.2.1]; exact hs) h2
  rw [rrv_mem hv] at h
  refine h.mono fun r w hp => ?_
  unfold m_pub at hp
  by_cases q0 : q_pass 1 = 0
  · rw [if_neg (fun z => z q0)] at hp
    obtain ⟨rfl, rfl⟩ := hp
    rw [q0]
    exact e_sv hv hs (hg q0)
  · rw [if_pos q0] at hp
    obtain ⟨rfl, rfl⟩ := hp
    exact e_no hv (by unfold q_pass; (repeat' split) <;> exact ⟨by decide, by decide⟩) q0
theorem e_pass {l : Launch} {D : DD} (hfl : l.stackTraces = false) {v : Mem} {m : Nat} (hM : MO v m) {f : RW} {s : Int} {P : RW} {kp : Int} {K b : RW} {n : Int} (hv : RRv v m f s P kp K b n) (hs : 0 ≤ s ∧ s ≤ 6) {k : Int} (hk : rg k) (hp : 1 ≤ k → k ≤ 99 → PassOK f (mI v (m + 7)) k.toNat) (hg : q_pass k = 0 → RF (m_pass f (mI v (m + 7)) k.toNat).1 ∧ RF (m_pass f (mI v (m + 7)) k.toNat).2) : CT l D yX8_pass cX8_pass 2 (some .int) rmX8_pass [xA m, xI k] v (RT2 v m (q_pass k) (m_eff (m_pass f (mI v (m + 7)) k.toNat).1 - m_eff f) f s P kp K b n ((m_pass f (mI v (m + 7)) k.toNat).1) (m_savedN s) (m_saved P f s) kp K b n) := by
  have h := k_pass (D := D) hfl hM (rrv_rf hv).1 (by rw [hv.2.1]; exact hs) hk hp
  rw [rrv_mem hv] at h
  refine h.mono fun r w hp => ?_
  unfold m_pub at hp
  by_cases q0 : q_pass k = 0
  · rw [if_neg (fun z => z q0)] at hp
    obtain ⟨rfl, rfl⟩ := hp
    rw [q0]
    exact e_svB hv hs (hg q0).1 (hg q0).2
  · rw [if_pos q0] at hp
    obtain ⟨rfl, rfl⟩ := hp
    exact e_no hv (by unfold q_pass; (repeat' split) <;> exact ⟨by decide, by decide⟩) q0
theorem e_row {l : Launch} {D : DD} (hfl : l.stackTraces = false) {v : Mem} {m : Nat} (hM : MO v m) {f : RW} {s : Int} {P : RW} {kp : Int} {K b : RW} {n : Int} (hv : RRv v m f s P kp K b n)  {i x : Int} (hi : rg i) (hx : rg x) (h2 : 0 ≤ f 2 ∧ f 2 ≤ 200) (h3 : 0 ≤ f 3 ∧ f 3 ≤ f 2) (hk : ∀ j : Nat, (j : Int) < m_kept f → 0 ≤ m_keptAt f j)  : CT l D yX8_row cX8_row 4 (some .int) rmX8_row [xA m, xI i, xI x] v (RT2 v m (q_row f i x) (m_rowV f (m_keptAt f i.toNat) x) f s P kp K b n (f) s P kp K b n) := by
  have h := k_row (D := D) hfl hM (rrv_rf hv).1 h2 h3 hi hx hk
  rw [rrv_mem hv] at h
  refine h.mono fun r w hp => ?_
  unfold m_pub at hp
  by_cases q0 : q_row f i x = 0
  · rw [if_neg (fun z => z q0)] at hp
    obtain ⟨rfl, rfl⟩ := hp
    rw [q0]
    exact e_look hv
  · rw [if_pos q0] at hp
    obtain ⟨rfl, rfl⟩ := hp
    exact e_no hv (by unfold q_row; (repeat' split) <;> exact ⟨by decide, by decide⟩) q0
theorem e_transaction {l : Launch} {D : DD} (hfl : l.stackTraces = false) {v : Mem} {m : Nat} (hM : MO v m) {f : RW} {s : Int} {P : RW} {kp : Int} {K b : RW} {n : Int} (hv : RRv v m f s P kp K b n)  {p x : Int} (hp : rg p) (hx : rg x) (hn1 : m_open f p = true → 0 ≤ m_its f p 1 ∧ m_its f p 1 ≤ 6)  : CT l D yX8_transaction cX8_transaction 4 (some .int) rmX8_transaction [xA m, xI p, xI x] v (RT2 v m (q_trans p x) (m_transV f p x) f s P kp K b n (f) s P kp K b n) := by
  have h := k_transaction (D := D) hfl hM (rrv_rf hv).1 hp hx hn1
  rw [rrv_mem hv] at h
  refine h.mono fun r w hp => ?_
  unfold m_pub at hp
  by_cases q0 : q_trans p x = 0
  · rw [if_neg (fun z => z q0)] at hp
    obtain ⟨rfl, rfl⟩ := hp
    rw [q0]
    exact e_look hv
  · rw [if_pos q0] at hp
    obtain ⟨rfl, rfl⟩ := hp
    exact e_no hv (by unfold q_trans; (repeat' split) <;> exact ⟨by decide, by decide⟩) q0
theorem e_receiver {l : Launch} {D : DD} (hfl : l.stackTraces = false) {v : Mem} {m : Nat} (hM : MO v m) {f : RW} {s : Int} {P : RW} {kp : Int} {K b : RW} {n : Int} (hv : RRv v m f s P kp K b n)  {c x : Int} (hc : rg c) (hx : rg x) (h2 : 0 ≤ f 2 ∧ f 2 ≤ 200) (h9 : 0 ≤ f 9 ∧ f 9 ≤ 100)  : CT l D yX8_receiver cX8_receiver 3 (some .int) rmX8_receiver [xA m, xI c, xI x] v (RT2 v m (q_recv c x) (m_recvV f c x) f s P kp K b n (f) s P kp K b n) := by
  have h := k_receiver (D := D) hfl hM (rrv_rf hv).1 h2 h9 hc hx
  rw [rrv_mem hv] at h
  refine h.mono fun r w hp => ?_
  unfold m_pub at hp
  by_cases q0 : q_recv c x = 0
  · rw [if_neg (fun z => z q0)] at hp
    obtain ⟨rfl, rfl⟩ := hp
    rw [q0]
    exact e_look hv
  · rw [if_pos q0] at hp
    obtain ⟨rfl, rfl⟩ := hp
    exact e_no hv (by unfold q_recv; (repeat' split) <;> exact ⟨by decide, by decide⟩) q0
theorem e_message {l : Launch} {D : DD} (hfl : l.stackTraces = false) {v : Mem} {m : Nat} (hM : MO v m) {f : RW} {s : Int} {P : RW} {kp : Int} {K b : RW} {n : Int} (hv : RRv v m f s P kp K b n)  {i x : Int} (hi : rg i) (hx : rg x) (h9 : 0 ≤ f 9 ∧ f 9 ≤ 100) (hr : 0 ≤ i → i < f 9 → 0 ≤ m_ranked f i ∧ m_ranked f i < f 9)  : CT l D yX8_message cX8_message 4 (some .int) rmX8_message [xA m, xI i, xI x] v (RT2 v m (q_msg f i x) (m_msgV f (m_ranked f i) x) f s P kp K b n (f) s P kp K b n) := by
  have h := k_message (D := D) hfl hM (rrv_rf hv).1 h9 hi hx hr
  rw [rrv_mem hv] at h
  refine h.mono fun r w hp => ?_
  unfold m_pub at hp
  by_cases q0 : q_msg f i x = 0
  · rw [if_neg (fun z => z q0)] at hp
    obtain ⟨rfl, rfl⟩ := hp
    rw [q0]
    exact e_look hv
  · rw [if_pos q0] at hp
    obtain ⟨rfl, rfl⟩ := hp
    exact e_no hv (by unfold q_msg; (repeat' split) <;> exact ⟨by decide, by decide⟩) q0
theorem e_count {l : Launch} {D : DD} (hfl : l.stackTraces = false) {v : Mem} {m : Nat} (hM : MO v m) {f : RW} {s : Int} {P : RW} {kp : Int} {K b : RW} {n : Int} (hv : RRv v m f s P kp K b n)  {x : Int} (hx : rg x)  : CT l D yX8_count cX8_count 2 (some .int) rmX8_count [xA m, xI x] v (RT2 v m (q_count x) (m_countV f (mI v m 4) x) f s P kp K b n (f) s P kp K b n) := by
  have h := k_count (D := D) hfl hM (rrv_rf hv).1 hx
  rw [rrv_mem hv] at h
  refine h.mono fun r w hp => ?_
  unfold m_pub at hp
  by_cases q0 : q_count x = 0
  · rw [if_neg (fun z => z q0)] at hp
    obtain ⟨rfl, rfl⟩ := hp
    rw [q0]
    exact e_look hv
  · rw [if_pos q0] at hp
    obtain ⟨rfl, rfl⟩ := hp
    exact e_no hv (by unfold q_count; (repeat' split) <;> exact ⟨by decide, by decide⟩) q0
theorem e_setting {l : Launch} {D : DD} (hfl : l.stackTraces = false) {v : Mem} {m : Nat} (hM : MO v m) {f : RW} {s : Int} {P : RW} {kp : Int} {K b : RW} {n : Int} (hv : RRv v m f s P kp K b n)  {i : Int} (hi : rg i)  : CT l D yX8_setting cX8_setting 2 (some .int) rmX8_setting [xA m, xI i] v (RT2 v m (q_sett i) (f (10 + i)) f s P kp K b n (f) s P kp K b n) := by
  have h := k_setting (D := D) hfl hM (rrv_rf hv).1 hi
  rw [rrv_mem hv] at h
  refine h.mono fun r w hp => ?_
  unfold m_pub at hp
  by_cases q0 : q_sett i = 0
  · rw [if_neg (fun z => z q0)] at hp
    obtain ⟨rfl, rfl⟩ := hp
    rw [q0]
    exact e_look hv
  · rw [if_pos q0] at hp
    obtain ⟨rfl, rfl⟩ := hp
    exact e_no hv (by unfold q_sett; (repeat' split) <;> exact ⟨by decide, by decide⟩) q0
theorem e_skips {l : Launch} {D : DD} (hfl : l.stackTraces = false) {v : Mem} {m : Nat} (hM : MO v m) {f : RW} {s : Int} {P : RW} {kp : Int} {K b : RW} {n : Int} (hv : RRv v m f s P kp K b n)  {p c : Int} (hp : rg p) (hc : rg c) (h2 : 0 ≤ f 2 ∧ f 2 ≤ 200) (hn1 : m_open f p = true → 0 ≤ m_its f p 1 ∧ m_its f p 1 ≤ 6)  : CT l D yX8_skips cX8_skips 3 (some .int) rmX8_skips [xA m, xI p, xI c] v (RT2 v m (q_skips p c) (m_skip f p c) f s P kp K b n (f) s P kp K b n) := by
  have h := k_skips (D := D) hfl hM (rrv_rf hv).1 h2 hp hc hn1
  rw [rrv_mem hv] at h
  refine h.mono fun r w hp => ?_
  unfold m_pub at hp
  by_cases q0 : q_skips p c = 0
  · rw [if_neg (fun z => z q0)] at hp
    obtain ⟨rfl, rfl⟩ := hp
    rw [q0]
    exact e_look hv
  · rw [if_pos q0] at hp
    obtain ⟨rfl, rfl⟩ := hp
    exact e_no hv (by unfold q_skips; (repeat' split) <;> exact ⟨by decide, by decide⟩) q0
theorem e_ifPassed {l : Launch} {D : DD} (hfl : l.stackTraces = false) {v : Mem} {m : Nat} (hM : MO v m) {f : RW} {s : Int} {P : RW} {kp : Int} {K b : RW} {n : Int} (hv : RRv v m f s P kp K b n)  {k c x : Int} (hk : rg k) (hc : rg c) (hx : rg x) (hp : 1 ≤ k → k ≤ 99 → PassOK f (mI v (m + 7)) k.toNat) (hB : q_ifp k c x = 0 → RF (m_pass f (mI (sI v m 11 0) (m + 7)) k.toNat).2)  : CT l D yX8_ifPassed cX8_ifPassed 4 (some .int) rmX8_ifPassed [xA m, xI k, xI c, xI x] v (RT2 v m (q_ifp k c x) (m_afterV f (mI v (m + 7)) k.toNat c x) f s P kp K b n (f) s P kp K b n) := by
  have h := k_ifPassed (D := D) hfl hM (rrv_rf hv).1 hk hc hx hp
  rw [rrv_mem hv] at h
  refine h.mono fun r w hp => ?_
  unfold m_pub at hp
  by_cases q0 : q_ifp k c x = 0
  · rw [if_neg (fun z => z q0)] at hp
    obtain ⟨rfl, rfl⟩ := hp
    rw [q0]
    exact e_try hv (rf_cp (rf_mI _ _) (rrv_rf hv).1 _) (hB q0)
  · rw [if_pos q0] at hp
    obtain ⟨rfl, rfl⟩ := hp
    exact e_no hv (by unfold q_ifp; (repeat' split) <;> exact ⟨by decide, by decide⟩) q0
theorem row_sI (u : Mem) (a : Nat) (k i : Int) : mI (sI u a k i) a = up (mI u a) k i := by
  funext j
  unfold up
  by_cases z : j = k
  · subst z; rw [if_pos rfl, mI_sI_s]
  · rw [if_neg z, mI_sI_k _ _ _ _ z]
theorem mI_sI_m {u : Mem} {a q : Nat} {k i : Int} (h : q ≠ a) : mI (sI u a k i) q = mI u q := up_mI_n _ _ _ h
theorem e_append {l : Launch} {D : DD} (hfl : l.stackTraces = false) {v : Mem} {m : Nat} (hM : MO v m) {f : RW} {s : Int} {P : RW} {kp : Int} {K b : RW} {n : Int} (hv : RRv v m f s P kp K b n) (hl : 0 ≤ n ∧ n ≤ 60) {x : Int} (hx : rg x) : CT l D yX8_append cX8_append 2 (some .int) rmX8_append [xA m, xI x] v (RT2 v m (q_append n x) (n + 1) f s P kp K b n f s P kp K (up b n x) (n + 1)) := by
  have h := k_append (D := D) hfl hM (rrv_rf hv).1 (by rw [hv.2.2.2]; exact hl) hx
  rw [rrv_mem hv, hv.2.2.2] at h
  refine h.mono fun r w hp => ?_
  unfold m_pub at hp
  by_cases q0 : q_append n x = 0
  · rw [if_neg (fun z => z q0)] at hp
    obtain ⟨rfl, rfl⟩ := hp
    rw [q0]
    exact ⟨Fr.sA (Fr.sI (Fr.sI (Fr.sI (Fr.refl _ _ _) _ _ ⟨by omega, by omega⟩) _ _ ⟨by omega, by omega⟩) _ _ ⟨by omega, by omega⟩) _ ⟨by omega, by omega⟩, by rw [mI_sA_n _ _ (by omega), mI_sI_k _ _ _ _ (by decide), mI_sI_a _ _ _ _ (by omega), mI_sI_s]; exact wr_id ⟨by decide, by decide⟩, _, rfl, Or.inl ⟨rfl, rfl, ⟨⟨by rw [mI_sA_f _ _ (rrv_rf hv).1], by rw [mI_sA_n _ _ (by omega), up_mI_n _ _ _ (by omega), up_mI_n _ _ _ (by omega), up_mI_n _ _ _ (by omega)]; exact hv.1.2.1, by rw [mI_sA_n _ _ (by omega), up_mI_n _ _ _ (by omega), up_mI_n _ _ _ (by omega), up_mI_n _ _ _ (by omega)]; exact hv.1.2.2.1, by rw [mI_sA_n _ _ (by omega), mI_sI_m (by omega), row_sI, up_mI_n _ _ _ (by omega), hv.1.2.2.2]⟩, by rw [mI_sA_n _ _ (by omega), mI_sI_k _ _ _ _ (by decide), mI_sI_a _ _ _ _ (by omega), mI_sI_k _ _ _ _ (by decide)]; exact hv.2.1, by rw [mI_sA_n _ _ (by omega), mI_sI_k _ _ _ _ (by decide), mI_sI_a _ _ _ _ (by omega), mI_sI_k _ _ _ _ (by decide)]; exact hv.2.2.1, by rw [mI_sA_n _ _ (by omega), mI_sI_s]; exact wr_id ⟨by omega, by omega⟩⟩⟩⟩
  · rw [if_pos q0] at hp
    obtain ⟨rfl, rfl⟩ := hp
    exact e_no hv (by unfold q_append; (repeat' split) <;> exact ⟨by decide, by decide⟩) q0
theorem e_clear {l : Launch} {D : DD} (hfl : l.stackTraces = false) {v : Mem} {m : Nat} (hM : MO v m) {f : RW} {s : Int} {P : RW} {kp : Int} {K b : RW} {n : Int} (hv : RRv v m f s P kp K b n) : CT l D yX8_clearBuffer cX8_clearBuffer 2 (some .int) rmX8_clearBuffer [xA m] v (RT2 v m 0 n f s P kp K b n f s P kp K b 0) := by
  have h := k_clearBuffer (D := D) hfl hM (rrv_rf hv).1
  rw [rrv_mem hv, hv.2.2.2] at h
  refine h.mono fun r w hp => ?_
  obtain ⟨rfl, rfl⟩ := hp
  exact ⟨Fr.sA (Fr.sI (Fr.sI (Fr.refl _ _ _) _ _ ⟨by omega, by omega⟩) _ _ ⟨by omega, by omega⟩) _ ⟨by omega, by omega⟩, by rw [mI_sA_n _ _ (by omega), mI_sI_k _ _ _ _ (by decide), mI_sI_s]; exact wr_id ⟨by decide, by decide⟩, _, rfl, Or.inl ⟨rfl, rfl, ⟨⟨by rw [mI_sA_f _ _ (rrv_rf hv).1], by rw [mI_sA_n _ _ (by omega), up_mI_n _ _ _ (by omega), up_mI_n _ _ _ (by omega)]; exact hv.1.2.1, by rw [mI_sA_n _ _ (by omega), up_mI_n _ _ _ (by omega), up_mI_n _ _ _ (by omega)]; exact hv.1.2.2.1, by rw [mI_sA_n _ _ (by omega), up_mI_n _ _ _ (by omega), up_mI_n _ _ _ (by omega)]; exact hv.1.2.2.2⟩, by rw [mI_sA_n _ _ (by omega), mI_sI_k _ _ _ _ (by decide), mI_sI_k _ _ _ _ (by decide)]; exact hv.2.1, by rw [mI_sA_n _ _ (by omega), mI_sI_k _ _ _ _ (by decide), mI_sI_k _ _ _ _ (by decide)]; exact hv.2.2.1, by rw [mI_sA_n _ _ (by omega), mI_sI_s]; exact wr_id ⟨by decide, by decide⟩⟩⟩⟩
theorem e_keep {l : Launch} {D : DD} (hfl : l.stackTraces = false) {v : Mem} {m : Nat} (hM : MO v m) {f : RW} {s : Int} {P : RW} {kp : Int} {K b : RW} {n : Int} (hv : RRv v m f s P kp K b n) : CT l D yX8_keep cX8_keep 2 (some .int) rmX8_keep [xA m] v (RT2 v m 0 (f 0) f s P kp K b n f s P 1 (cp K f 1651) b n) := by
  have h := k_keep (D := D) hfl hM (rrv_rf hv).1
  rw [rrv_mem hv, hv.1.2.2.1] at h
  refine h.mono fun r w hp => ?_
  obtain ⟨rfl, rfl⟩ := hp
  exact ⟨Fr.sA (Fr.sA (Fr.sI (Fr.sI (Fr.refl _ _ _) _ _ ⟨by omega, by omega⟩) _ _ ⟨by omega, by omega⟩) _ ⟨by omega, by omega⟩) _ ⟨by omega, by omega⟩, by rw [mI_sA_n _ _ (by omega), mI_sA_n _ _ (by omega), mI_sI_k _ _ _ _ (by decide), mI_sI_s]; exact wr_id ⟨by decide, by decide⟩, _, rfl, Or.inl ⟨rfl, rfl, ⟨⟨by rw [mI_sA_f _ _ (rrv_rf hv).1], by rw [mI_sA_n _ _ (by omega), mI_sA_n _ _ (by omega), up_mI_n _ _ _ (by omega), up_mI_n _ _ _ (by omega)]; exact hv.1.2.1, by rw [mI_sA_n _ _ (by omega), mI_sA_f _ _ (rf_cp (rrv_rf hv).2.2.1 (rrv_rf hv).1 _)], by rw [mI_sA_n _ _ (by omega), mI_sA_n _ _ (by omega), up_mI_n _ _ _ (by omega), up_mI_n _ _ _ (by omega)]; exact hv.1.2.2.2⟩, by rw [mI_sA_n _ _ (by omega), mI_sA_n _ _ (by omega), mI_sI_k _ _ _ _ (by decide), mI_sI_k _ _ _ _ (by decide)]; exact hv.2.1, by rw [mI_sA_n _ _ (by omega), mI_sA_n _ _ (by omega), mI_sI_s]; exact wr_id ⟨by decide, by decide⟩, by rw [mI_sA_n _ _ (by omega), mI_sA_n _ _ (by omega), mI_sI_k _ _ _ _ (by decide), mI_sI_k _ _ _ _ (by decide)]; exact hv.2.2.2⟩⟩⟩
theorem e_goBack {l : Launch} {D : DD} (hfl : l.stackTraces = false) {v : Mem} {m : Nat} (hM : MO v m) {f : RW} {s : Int} {P : RW} {kp : Int} {K b : RW} {n : Int} (hv : RRv v m f s P kp K b n) (hs : 0 ≤ s ∧ s ≤ 6) : CT l D yX8_goBack cX8_goBack 2 (some .int) rmX8_goBack [xA m] v (RT2 v m (if kp = 0 then 1 else 0) ((cp f K 1651) 0) f s P kp K b n (cp f K 1651) (m_savedN s) (m_saved P f s) kp K b n) := by
  have h := k_goBack (D := D) hfl hM (rrv_rf hv).1 (by rw [hv.2.1]; exact hs)
  have hqb : q_back v m = if kp = 0 then 1 else 0 := by unfold q_back; rw [hv.2.2.1]
  rw [rrv_mem hv, hv.1.2.2.1, hqb] at h
  refine h.mono fun r w hp => ?_
  unfold m_pub at hp
  by_cases q0 : (if kp = 0 then 1 else 0 : Int) = 0
  · rw [if_neg (fun z => z q0)] at hp
    obtain ⟨rfl, rfl⟩ := hp
    rw [q0]
    exact e_sv hv hs (rf_cp (rrv_rf hv).1 (rrv_rf hv).2.2.1 _)
  · rw [if_pos q0] at hp
    obtain ⟨rfl, rfl⟩ := hp
    exact e_no hv (by split <;> exact ⟨by decide, by decide⟩) q0
theorem e_undo {l : Launch} {D : DD} (hfl : l.stackTraces = false) {v : Mem} {m : Nat} (hM : MO v m) {f : RW} {s : Int} {P : RW} {kp : Int} {K b : RW} {n : Int} (hv : RRv v m f s P kp K b n) (hs : 0 ≤ s ∧ s ≤ 6) : CT l D yX8_undo cX8_undo 2 (some .int) rmX8_undo [xA m] v (RT2 v m (if s = 0 then 1 else 0) (s - 1) f s P kp K b n (cp f (m_past P (s - 1)) 1651) (s - 1) P kp K b n) := by
  have h := k_undo (D := D) hfl hM (rrv_rf hv).1 (by rw [hv.2.1]; exact hs)
  rw [rrv_mem hv, hv.2.1, hv.1.2.1] at h
  refine h.mono fun r w hp => ?_
  by_cases q0 : s = 0
  · rw [if_pos q0] at hp ⊢
    obtain ⟨rfl, rfl⟩ := hp
    exact e_no hv ⟨by decide, by decide⟩ (by decide)
  · rw [if_neg q0] at hp ⊢
    obtain ⟨rfl, rfl⟩ := hp
    have hcpP : RF (cp f (m_past P (s - 1)) 1651) := rf_cp (rrv_rf hv).1 (fun j => (rrv_rf hv).2.1 _) _
    exact ⟨Fr.sA (Fr.sI (Fr.sI (Fr.refl _ _ _) _ _ ⟨by omega, by omega⟩) _ _ ⟨by omega, by omega⟩) _ ⟨by omega, by omega⟩, by rw [mI_sA_n _ _ (by omega), mI_sI_k _ _ _ _ (by decide), mI_sI_s]; exact wr_id ⟨by decide, by decide⟩, _, rfl, Or.inl ⟨rfl, rfl, ⟨⟨by rw [mI_sA_f _ _ hcpP], by rw [mI_sA_n _ _ (by omega), up_mI_n _ _ _ (by omega), up_mI_n _ _ _ (by omega)]; exact hv.1.2.1, by rw [mI_sA_n _ _ (by omega), up_mI_n _ _ _ (by omega), up_mI_n _ _ _ (by omega)]; exact hv.1.2.2.1, by rw [mI_sA_n _ _ (by omega), up_mI_n _ _ _ (by omega), up_mI_n _ _ _ (by omega)]; exact hv.1.2.2.2⟩, by rw [mI_sA_n _ _ (by omega), mI_sI_s]; exact wr_id ⟨by omega, by omega⟩, by rw [mI_sA_n _ _ (by omega), mI_sI_k _ _ _ _ (by decide), mI_sI_k _ _ _ _ (by decide)]; exact hv.2.2.1, by rw [mI_sA_n _ _ (by omega), mI_sI_k _ _ _ _ (by decide), mI_sI_k _ _ _ _ (by decide)]; exact hv.2.2.2⟩⟩⟩
theorem e_slowest {l : Launch} {D : DD} (hfl : l.stackTraces = false) {v : Mem} {m : Nat} (hM : MO v m) {f : RW} {s : Int} {P : RW} {kp : Int} {K b : RW} {n : Int} (hv : RRv v m f s P kp K b n) (h2 : 0 ≤ f 2 ∧ f 2 ≤ 200) : CT l D yX8_slowest cX8_slowest 1 (some .int) rmX8_slowest [xA m] v (RT2 v m 0 (m_far f) f s P kp K b n f s P kp K b n) := by
  have h := k_slowest (D := D) hfl hM (rrv_rf hv).1 h2
  rw [rrv_mem hv] at h
  refine h.mono fun r w hp => ?_
  obtain ⟨rfl, rfl⟩ := hp
  exact e_look hv
theorem e_drainIn {l : Launch} {D : DD} (hfl : l.stackTraces = false) {v : Mem} {m : Nat} (hM : MO v m) {f : RW} {s : Int} {P : RW} {kp : Int} {K b : RW} {n : Int} (hv : RRv v m f s P kp K b n) (hp1 : PassOK f (mI v (m + 7)) 300) (h2k : ∀ k : Nat, k ≤ 300 → 0 ≤ (m_pass f (mI v (m + 7)) k).1 2 ∧ (m_pass f (mI v (m + 7)) k).1 2 ≤ 200) (hB : RF (m_pass f (mI (sI v m 11 0) (m + 7)) (m_drainT f (mI v (m + 7)))).2) : CT l D yX8_drainIn cX8_drainIn 1 (some .int) rmX8_drainIn [xA m] v (RT2 v m 0 (m_drainV f (mI v (m + 7))) f s P kp K b n f s P kp K b n) := by
  have h := k_drainIn (D := D) hfl hM (rrv_rf hv).1 hp1 h2k
  rw [rrv_mem hv] at h
  refine h.mono fun r w hp => ?_
  obtain ⟨rfl, rfl⟩ := hp
  exact e_try hv (rf_cp (rf_mI _ _) (rrv_rf hv).1 _) hB
theorem e_thrown {l : Launch} {D : DD} (hfl : l.stackTraces = false) {v : Mem} {m : Nat} (hM : MO v m) : CT l D yX8_thrown cX8_thrown 1 (some .int) rmX8_thrown [xA m] v (RT (xI (mI v m 11)) v) := by
  have h := k_thrown (D := D) hfl hM (rf_mI v (m + 1))
  rw [sA_mI] at h
  exact h
