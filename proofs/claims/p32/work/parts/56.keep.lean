/-! ===== what stays ===== -/
theorem its_keep {r r' : RW} {p : Nat} (hr : ∀ j, 17 + 20 * (p : Int) ≤ j → j < 17 + 20 * p + 20 → r' j = r j) {x : Int} (h0 : 0 ≤ x) (h1 : x < 20) : m_its r' p x = m_its r p x := by
  unfold m_its; exact hr _ (by omega) (by omega)
theorem RSt.keep {u w : Mem} {b : Nat} {r r' : RW} {p : Nat} (h : RSt u b r p) (hm : ∀ q, b ≤ q → q < b + 4 → mI w q = mI u q) (hr : ∀ j, 17 + 20 * (p : Int) ≤ j → j < 17 + 20 * p + 20 → r' j = r j) (h6 : m_its r p 1 ≤ 6) : RSt w b r' p := by
  obtain ⟨h1, h2, h3⟩ := h
  have e := fun {x : Int} => its_keep (x := x) hr
  refine ⟨by rw [hm b (by omega) (by omega), e (by omega) (by omega)]; exact h1, by rw [hm b (by omega) (by omega), e (by omega) (by omega)]; exact h2, fun i hi => ?_⟩
  rw [e (by omega) (by omega)] at hi
  obtain ⟨a1, a2, a3⟩ := h3 i hi
  refine ⟨?_, ?_, ?_⟩
  · rw [hm (b + 1) (by omega) (by omega), e (by omega) (by omega)]; exact a1
  · rw [hm (b + 2) (by omega) (by omega), e (by omega) (by omega)]; exact a2
  · rw [hm (b + 3) (by omega) (by omega), e (by omega) (by omega)]; exact a3
theorem Ord.keep {r r' : RW} {n : Nat} {o : Nat → Nat} (h : Ord r n o) (h2 : r' 2 = r 2) (hm : ∀ k : Nat, (k : Int) < r 2 → m_mark r' k 0 = m_mark r k 0) (hn : ∀ k : Nat, (k : Int) < r 2 → m_num r' k = m_num r k) : Ord r' n o := by
  obtain ⟨a1, a2, a3⟩ := h
  refine ⟨fun j hj => ?_, fun i j hij hj => ?_, fun k hk hk0 => ?_⟩
  · have := a1 j hj
    rw [h2, hm _ this.1]; exact this
  · rw [hn _ (a1 i (by omega)).1, hn _ (a1 j hj).1]; exact a2 i j hij hj
  · rw [h2] at hk
    rw [hm k hk] at hk0
    exact a3 k hk hk0
theorem num_keep {r r' : RW} {k : Int} (h10 : r' 10 = r 10) (hw : r' (97 + 3 * k + 1) = r (97 + 3 * k + 1)) : m_num r' k = m_num r k := by
  unfold m_num m_write; rw [h10, hw]
theorem mark_keep {r r' : RW} {k b : Int} (hw : r' (97 + 3 * k + 2) = r (97 + 3 * k + 2)) : m_mark r' k b = m_mark r k b := by
  unfold m_mark; rw [hw]
theorem RSr.keep {u w : Mem} {b : Nat} {r r' : RW} (h : RSr u b r) (hm : ∀ q, b ≤ q → q < b + 8 → mI w q = mI u q) (hr : ∀ j, (j = 2 ∨ j = 3 ∨ j = 10 ∨ (97 ≤ j ∧ j < 697)) → r' j = r j) (h2 : r 2 ≤ 200) : RSr w b r' := by
  obtain ⟨a1, a2, a3, a4, o, a5, a6⟩ := h
  have e2 := hr 2 (by omega)
  have ek : m_kept r' = m_kept r := by unfold m_kept; rw [e2, hr 3 (by omega)]
  have e0 : mI w b = mI u b := hm b (by omega) (by omega)
  refine ⟨by rw [e0, e2]; exact a1, by rw [e0, ek]; exact a2, by rw [e0, hr 3 (by omega)]; exact a3, fun k hk => ?_, o, ?_, fun j hj => ?_⟩
  · rw [e2] at hk
    obtain ⟨b1, b2, b3, b4, b5, b6⟩ := a4 k hk
    have n1 := hr (97 + 3 * k) (by omega)
    have n2 := hr (97 + 3 * k + 1) (by omega)
    have n3 := hr (97 + 3 * k + 2) (by omega)
    refine ⟨?_, ?_, ?_, ?_, ?_, ?_⟩
    · rw [hm (b + 1) (by omega) (by omega), num_keep (hr 10 (by omega)) n2]; exact b1
    · rw [hm (b + 2) (by omega) (by omega)]; unfold m_write; rw [n2]; exact b2
    · rw [hm (b + 3) (by omega) (by omega)]; unfold m_topic; rw [n1]; exact b3
    · rw [hm (b + 4) (by omega) (by omega)]; unfold m_value; rw [n1]; exact b4
    · rw [hm (b + 5) (by omega) (by omega), n3]; exact b5
    · rw [hm (b + 6) (by omega) (by omega), n3]; exact b6
  · rw [ek]
    exact a5.keep e2 (fun k hk => mark_keep (hr _ (by omega))) (fun k hk => num_keep (hr 10 (by omega)) (hr _ (by omega)))
  · rw [ek] at hj
    rw [hm (b + 7) (by omega) (by omega)]; exact a6 j hj
theorem of_keep {r r' : RW} {c : Nat} (hr : ∀ j, 697 + 38 * (c : Int) ≤ j → j < 697 + 38 * c + 38 → r' j = r j) {x : Int} (h0 : 0 ≤ x) (h1 : x < 38) : m_of r' c x = m_of r c x := by
  unfold m_of; exact hr _ (by omega) (by omega)
theorem RSc.keep {u w : Mem} {b : Nat} {r r' : RW} {c : Nat} (h : RSc u b r c) (hm : mI w b = mI u b) (hm1 : mI w (b + 1) = mI u (b + 1)) (hr : ∀ j, 697 + 38 * (c : Int) ≤ j → j < 697 + 38 * c + 38 → r' j = r j) (h2 : m_of r c 2 ≤ 24) : RSc w b r' c := by
  have e := fun {x : Int} => of_keep (x := x) hr
  obtain ⟨a1, a2, a3, a4, a5, a6, a7, a8, a9, a10, a11, a12, a13, a14⟩ := h
  unfold RSc
  rw [hm, hm1, e (by decide) (by decide), e (by decide) (by decide), e (by decide) (by decide), e (by decide) (by decide), e (by decide) (by decide), e (by decide) (by decide), e (by decide) (by decide), e (by decide) (by decide), e (by decide) (by decide), e (by decide) (by decide), e (by decide) (by decide), e (by decide) (by decide), e (by decide) (by decide)]
  exact ⟨a1, a2, a3, a4, a5, a6, a7, a8, a9, a10, a11, a12, a13, fun j hj => by rw [e (by omega) (by omega)]; exact a14 j hj⟩
theorem way_keep {r r' : RW} (hr : ∀ j, 811 ≤ j → r' j = r j) {n x : Int} (hn : 0 ≤ n) (hx : 0 ≤ x) : m_way r' n x = m_way r n x := by
  unfold m_way; exact hr _ (by omega)
theorem rowOf_keep {r r' : RW} (hr : ∀ j, 811 ≤ j → r' j = r j) {n k : Int} (hn : 0 ≤ n) (hk : 0 ≤ k) : m_rowOf r' n k = m_rowOf r n k := by
  unfold m_rowOf; rw [way_keep hr hn (by have := Int.tdiv_nonneg hk (by decide : (0:Int) ≤ 4); omega)]
theorem RSm.keep {u w : Mem} {q : Nat} {r r' : RW} {n : Int} (h : RSm u q r n) (hn : 0 ≤ n) (hm : mI w q = mI u q) (hm1 : mI w (q + 1) = mI u (q + 1)) (hr : ∀ j, 811 ≤ j → r' j = r j) : RSm w q r' n := by
  obtain ⟨a1, a2, a3, a4, a5, a6⟩ := h
  have e := fun {x : Int} => way_keep (x := x) hr hn
  unfold RSm
  rw [hm, hm1, e (by decide), e (by decide), e (by decide), e (by decide), e (by decide)]
  exact ⟨a1, a2, a3, a4, a5, fun k hk => by rw [rowOf_keep hr hn (by omega)]; exact a6 k hk⟩
theorem Sig.keep {r r' : RW} {n : Nat} {s : Nat → Nat} (h : Sig r n s) (hr : ∀ j, 811 ≤ j → r' j = r j) : Sig r' n s := by
  refine ⟨h.1, h.2.1, fun i j hij hj => ?_⟩
  have := h.2.2 i j hij hj
  unfold Lex at this ⊢
  rw [way_keep hr (by omega) (by decide), way_keep hr (by omega) (by decide)]; exact this
theorem qa_eq {u w : Mem} {b : Nat} (h : mP w (b + 1) = mP u (b + 1)) (j : Int) : qa w b j = qa u b j := by unfold qa; rw [h]
theorem RSl.keep {u w : Mem} {b : Nat} {r r' : RW} (hO : MaO u b) (h : RSl u b r) (hm : ∀ q, b ≤ q → q < b + 112 → mI w q = mI u q) (hp : mP w (b + 1) = mP u (b + 1)) (hr : ∀ j, ((4 ≤ j ∧ j ≤ 9) ∨ 811 ≤ j) → r' j = r j) (h9 : r 9 ≤ 54) : RSl w b r' := by
  obtain ⟨a1, a2, a3, a4, a5, a6, s, a7, a8⟩ := h
  have hr1 := fun j (hj : 811 ≤ j) => hr j (Or.inr hj)
  have e0 : mI w b = mI u b := hm b (by omega) (by omega)
  refine ⟨?_, ?_, ?_, ?_, ?_, ?_, s, ?_, fun j hj => ?_⟩
  · rw [e0, hr 9 (by omega)]; exact a1
  · rw [e0, hr 4 (by omega)]; exact a2
  · rw [e0, hr 5 (by omega)]; exact a3
  · rw [e0, hr 6 (by omega)]; exact a4
  · rw [e0, hr 8 (by omega)]; exact a5
  · rw [e0, hr 7 (by omega)]; exact a6
  · rw [hr 9 (by omega)]; exact a7.keep hr1
  · rw [hr 9 (by omega)] at hj
    have hb := hO.bq (j := j) (by omega)
    rw [qa_eq hp]
    exact (a8 j hj).keep (by omega) (hm _ (by omega) (by omega)) (hm _ (by omega) (by omega)) hr1
theorem StO.fr {u w : Mem} {a : Nat} (h : StO u a) (hs : mSh w = mSh u) (hp : ∀ q, a ≤ q → q < a + 146 → q ≠ a + 35 → mP w q = mP u q) (hq : QuO w (a + 34)) : StO w a := by
  obtain ⟨h1, ⟨h2, h3⟩, ⟨h4, h5⟩, h6, ⟨h7, h8⟩, ⟨h9, h10⟩, h11, h12, h13⟩ := h
  have e0 : mP w a = mP u a := hp a (by omega) (by omega) (by omega)
  refine ⟨by rw [hs]; exact h1, ⟨by rw [e0]; exact h2, by rw [hs]; exact h3⟩, ⟨by rw [e0]; exact h4, by rw [hs]; exact h5⟩, fun p hp4 => ?_, ⟨by rw [e0]; exact h7, ?_⟩, ⟨by rw [e0]; exact h9, by rw [hs]; exact h10⟩, fun i hi => ?_, by rw [e0]; exact h12, ?_⟩
  · obtain ⟨a1, a2⟩ := h6 p hp4
    refine ⟨by rw [hp (a + 2) (by omega) (by omega) (by omega)]; exact a1, ?_⟩
    unfold TrO at a2 ⊢
    rw [hs, hp (a + 3 + 4 * p) (by omega) (by omega) (by omega)]; exact a2
  · unfold RoO at h8 ⊢
    rw [hs, hp (a + 19) (by omega) (by omega) (by omega)]; exact h8
  · obtain ⟨a1, a2⟩ := h11 i hi
    refine ⟨by rw [hp (a + 27) (by omega) (by omega) (by omega)]; exact a1, ?_⟩
    unfold ReO at a2 ⊢
    rw [hs, hp (a + 28 + 2 * i) (by omega) (by omega) (by omega)]; exact a2
  · obtain ⟨b1, b2, b3, b4⟩ := h13
    refine ⟨by rw [hs]; exact b1, ⟨by rw [hp (a + 34) (by omega) (by omega) (by omega)]; exact b2.1, by rw [hs]; exact b2.2⟩, fun t ht => ?_, hq⟩
    have := b3 t ht
    unfold MsO at this ⊢
    rw [hs, hp (a + 34 + 2 + 2 * t) (by omega) (by omega) (by omega)]; exact this
theorem Fr.stO {u w : Mem} {S : Nat → Prop} {a : Nat} (h : Fr u w S (fun _ => False)) (hO : StO u a) : StO w a := hO.fr h.1 (fun _ _ _ _ => h.mP id) (by unfold QuO; rw [h.mP id]; exact hO.l.2.2.2)
/-- only the state at a differs -/
def Blk (u w : Mem) (a : Nat) : Prop := Fr u w (fun q => a ≤ q ∧ q < a + 146) (fun q => q = a + 35)
theorem Blk.refl (u : Mem) (a : Nat) : Blk u u a := Fr.refl _ _ _
theorem Blk.trans {u v w : Mem} {a : Nat} (h : Blk u v a) (k : Blk v w a) : Blk u w a := Fr.trans h k
theorem Fr.blk {u w : Mem} {S : Nat → Prop} {a : Nat} (h : Fr u w S (fun _ => False)) (hS : ∀ q, S q → a ≤ q ∧ q < a + 146) : Blk u w a := h.weak hS (fun _ x => x.elim)
/-- numbers of a transaction's block changed, pointers didn't -/
theorem RS.tr {u w : Mem} {a : Nat} {r r' : RW} (h : RS u a r) (hB : IB r) {p : Nat} (hp : p < 4) (hf : Fr u w (fun q => q = a ∨ (a + 3 + 4 * p ≤ q ∧ q < a + 3 + 4 * p + 4)) (fun _ => False)) (ht : mI w a 5 = r' 0 ∧ mI w a 6 = r' 1) (hr : ∀ j, j ≠ 1 → (j < 17 + 20 * (p : Int) ∨ 17 + 20 * (p : Int) + 20 ≤ j) → r' j = r j) (hn : RSt w (a + 3 + 4 * p) r' p) : RS w a r' := by
  have b2 := hB.co.1
  refine ⟨hf.stO h.o, ht, fun i hi => ?_, fun q hq => ?_, ?_, fun i hi => ?_, ?_⟩
  · rw [hf.mI (by omega), hr _ (by omega) (by omega)]; exact h.set hi
  · by_cases e : q = p
    · subst e; exact hn
    · exact (h.t hq).keep (fun x h1 h2 => hf.mI (by omega)) (fun j h1 h2 => hr j (by omega) (by omega)) (hB.pl q hq).2.1.2
  · exact h.r.keep (fun x h1 h2 => hf.mI (by omega)) (fun j hj => hr j (by omega) (by omega)) b2.2
  · exact (h.c hi).keep (hf.mI (by omega)) (hf.mI (by omega)) (fun j h1 h2 => hr j (by omega) (by omega)) (by have := (hB.re i hi).2.2.1; omega)
  · exact h.l.keep h.o.l (fun x h1 h2 => hf.mI (by omega)) (hf.mP id) (fun j hj => hr j (by omega) (by omega)) hB.ni
