/-! ===== what lies beside the relay: the reference, the row that answers come in, the script ===== -/
theorem CT.mono {l : Launch} {D : DD} {y : MethodName} {b : ByteArray} {mL : Nat} {rt : Option FieldType} {rm : Room} {as : List SV} {u : Mem} {post post' : Option SV → Mem → Prop} (h : CT l D y b mL rt rm as u post) (hp : ∀ r w, post r w → post' r w) : CT l D y b mL rt rm as u post' := by
  intro p e h1 h2 h3 s m args below h4 h5 h6 h7
  obtain ⟨n, o, a1, a2, a3, ⟨r, u1, b1, b2, b3⟩, a5⟩ := h p e h1 h2 h3 s m args below h4 h5 h6 h7
  exact ⟨n, o, a1, a2, a3, ⟨r, u1, b1, hp _ _ b2, b3⟩, a5⟩
theorem vw_widen {C : Cx} {pc : Nat} {lv : LV} {st : List SV} {u : Mem} {c z c' z' : Nat} (h1 : c ≤ c') (h2 : z ≤ z') (k : VW C pc lv st u c' z') : VW C pc lv st u c z := by
  obtain ⟨p, l, e, R1, s, m, args, below, meth, cd, Q, D⟩ := C
  intro H locs ls hu hS hl
  exact W.widen h1 h2 (k H locs ls hu hS hl)
/-- changes beside the relay leave it as it is -/
theorem RX.fr {u w : Mem} {x : Nat} {S : Nat → Prop} {f : RW} {s : Int} {P : RW} {kp : Int} {K : RW} {T : Int} (h : RX u x f s P kp K T) (hf : Fr u w S (fun _ => False)) (hS : ∀ q, S q → Out u x q) : RX w x f s P kp K T := by
  obtain ⟨ho, hq, ⟨hR, hI⟩, ⟨s1, s2, s3⟩, hk⟩ := h
  have hsh : mSh w = mSh u := hf.1
  have hp : mP w = mP u := funext fun q => hf.mP id
  have hsl : ∀ k, qS w x k = qS u x k := fun k => by unfold qS; rw [hp]
  have g0 : ∀ q, x ≤ q → q < x + 150 → mI w q = mI u q := fun q h1 h2 => hf.mI fun z => (hS q z).2.1 ⟨h1, h2⟩
  have g1 : ∀ i, i < 8 → ∀ a, qS u x i = some a → Lo u w a 146 := fun i hi a ha q h1 h2 => ⟨by rw [hsh], hf.mI fun z => (hS q z).2.2 i hi a ha ⟨h1, h2⟩, by rw [hp]⟩
  refine ⟨?_, ⟨by rw [hf.2.1]; exact hq.1, fun i hi a ha => ?_, fun i j hi hj hne a b ha hb => ?_⟩, ⟨hR.loc hI.b (fun q h1 h2 => ⟨by rw [hsh], g0 q (by omega) (by omega), by rw [hp]⟩), hI⟩, ⟨by rw [g0 x (by omega) (by omega)]; exact s1, s2, fun k hk' => ?_⟩, ?_⟩
  · unfold RXo TeO at *
    rw [hsh, hp]; exact ho
  · rw [hsl] at ha
    obtain ⟨b1, b2⟩ := hq.2.1 i hi a ha
    exact ⟨by rw [hf.2.1]; exact b1, hf.stO b2⟩
  · rw [hsl] at ha hb
    exact hq.2.2 i j hi hj hne a b ha hb
  · obtain ⟨b, b1, b2, b3⟩ := s3 k hk'
    exact ⟨b, (hsl k).trans b1, b2.loc b3.b (g1 k (by omega) b b1), b3⟩
  · rcases hk with ⟨k1, k2⟩ | ⟨k1, b, b1, b2, b3⟩
    · exact Or.inl ⟨k1, (hsl 6).trans k2⟩
    · exact Or.inr ⟨k1, b, (hsl 6).trans b1, b2.loc b3.b (g1 6 (by decide) b b1), b3⟩
theorem RXt.fr {u w : Mem} {x : Nat} {S : Nat → Prop} {b : RW} {n : Int} (h : RXt u x b n) (hf : Fr u w S (fun _ => False)) (hS : ∀ q, S q → Out u x q) : RXt w x b n := by
  have g0 : ∀ q, x ≤ q → q < x + 150 → mI w q = mI u q := fun q h1 h2 => hf.mI fun z => (hS q z).2.1 ⟨h1, h2⟩
  exact ⟨by rw [g0 _ (by omega) (by omega)]; exact h.1, h.2.1, fun k hk => by rw [g0 _ (by omega) (by omega)]; exact h.2.2 k hk⟩
theorem Out.fr {u w : Mem} {x q : Nat} {S : Nat → Prop} (h : Out u x q) (hf : Fr u w S (fun _ => False)) : Out w x q := by
  have hp : mP w = mP u := funext fun q => hf.mP id
  have hsl : ∀ k, qS w x k = qS u x k := fun k => by unfold qS; rw [hp]
  exact ⟨by rw [hf.2.1]; exact h.1, h.2.1, fun i hi a ha => h.2.2 i hi a (by rw [← hsl]; exact ha)⟩
theorem RX.more {u : Mem} {x : Nat} {f : RW} {s : Int} {P : RW} {kp : Int} {K : RW} {T T1 : Int} (h : RX u x f s P kp K T) (hT : T ≤ T1) : RX u x f s P kp K T1 := (h.now (Blk.refl u _) h.2.2.1.1 (h.2.2.1.2.more hT) hT).1
/-- a thing more behind all -/
theorem RX.wN {u : Mem} {x n : Nat} {f : RW} {s : Int} {P : RW} {kp : Int} {K : RW} {T : Int} (h : RX u x f s P kp K T) (hn : mN u ≤ n) : RX (wN u n) x f s P kp K T := by
  obtain ⟨ho, hq, hS, hs, hk⟩ := h
  exact ⟨ho, ⟨Nat.le_trans hq.1 hn, fun i hi a ha => ⟨⟨(hq.2.1 i hi a ha).1.1, Nat.le_trans (hq.2.1 i hi a ha).1.2 hn⟩, (hq.2.1 i hi a ha).2⟩, hq.2.2⟩, hS, hs, hk⟩
theorem RX.sJ {u : Mem} {x o : Nat} {k : Int} {j : Int64} {f : RW} {s : Int} {P : RW} {kp : Int} {K : RW} {T : Int} (h : RX u x f s P kp K T) : RX (sJ u o k j) x f s P kp K T := by
  obtain ⟨ho, hq, hS, hs, hk⟩ := h
  exact ⟨ho, hq, hS, hs, hk⟩
/-- the reference's own: its row, the past, what is kept, the text, how many saved, whether one is kept, how long the text is -/
def RRv (v : Mem) (m : Nat) (f : RW) (s : Int) (P : RW) (kp : Int) (K b : RW) (n : Int) : Prop := (mI v (m + 1) = f ∧ mI v (m + 2) = P ∧ mI v (m + 3) = K ∧ mI v (m + 5) = b) ∧ (mI v m 4 = s ∧ mI v m 5 = kp ∧ mI v m 7 = n)
def RRo (v : Mem) (x m o sc L : Nat) : Prop := MO v m ∧ (mSh v o = some (.inr (1, 1)) ∧ mSh v sc = some (.inr (9, L))) ∧ (∀ q, (m ≤ q ∧ q < m + 8) ∨ q = o ∨ q = sc → Out v x q) ∧ x + 150 ≤ m
theorem RRo.kp {v w : Mem} {x m o sc L : Nat} (h : RRo v x m o sc L) (k : Kp v w x) : RRo w x m o sc L := by
  obtain ⟨h1, ⟨h2, h3⟩, h4, h5⟩ := h
  have g : ∀ q, m ≤ q → q < m + 8 → mSh w q = mSh v q ∧ mP w q = mP v q := fun q a b => ⟨(k.2 q (h4 q (Or.inl ⟨a, b⟩))).2.1, (k.2 q (h4 q (Or.inl ⟨a, b⟩))).2.2.2.1⟩
  refine ⟨?_, ⟨by rw [(k.2 o (h4 o (Or.inr (Or.inl rfl)))).2.1]; exact h2, by rw [(k.2 sc (h4 sc (Or.inr (Or.inr rfl)))).2.1]; exact h3⟩, fun q hq => (k.2 q (h4 q hq)).1, h5⟩
  unfold MO at *
  rw [(g m (by omega) (by omega)).1, (g m (by omega) (by omega)).2, (g (m + 1) (by omega) (by omega)).1, (g (m + 2) (by omega) (by omega)).1, (g (m + 3) (by omega) (by omega)).1, (g (m + 4) (by omega) (by omega)).1, (g (m + 5) (by omega) (by omega)).1, (g (m + 6) (by omega) (by omega)).1, (g (m + 7) (by omega) (by omega)).1]
  exact h1
theorem RRv.kp {v w : Mem} {x m o sc L : Nat} (h : RRo v x m o sc L) (k : Kp v w x) {f : RW} {s : Int} {P : RW} {kp : Int} {K b : RW} {n : Int} (hv : RRv v m f s P kp K b n) : RRv w m f s P kp K b n := by
  have g : ∀ q, m ≤ q → q < m + 8 → mI w q = mI v q := fun q a b => (k.2 q (h.2.2.1 q (Or.inl ⟨a, b⟩))).2.2.1
  unfold RRv at *
  rw [g m (by omega) (by omega), g (m + 1) (by omega) (by omega), g (m + 2) (by omega) (by omega), g (m + 3) (by omega) (by omega), g (m + 5) (by omega) (by omega)]
  exact hv
theorem RRo.fr {v w : Mem} {x m o sc L : Nat} {S : Nat → Prop} (h : RRo v x m o sc L) (hf : Fr v w S (fun _ => False)) : RRo w x m o sc L := by
  have hsh : mSh w = mSh v := hf.1
  have hp : mP w = mP v := funext fun q => hf.mP id
  obtain ⟨h1, h2, h4, h5⟩ := h
  refine ⟨?_, by rw [hsh]; exact h2, fun q hq => (h4 q hq).fr hf, h5⟩
  unfold MO at *
  rw [hsh, hp]; exact h1
theorem RRo.wN {v : Mem} {x m o sc L n : Nat} (h : RRo v x m o sc L) (hn : mN v ≤ n) : RRo (wN v n) x m o sc L := ⟨h.1, h.2.1, fun q hq => ⟨Nat.lt_of_lt_of_le (h.2.2.1 q hq).1 hn, (h.2.2.1 q hq).2⟩, h.2.2.2⟩
theorem RRo.sJ {v : Mem} {x m o sc L : Nat} {k : Int} {j : Int64} (h : RRo v x m o sc L) : RRo (sJ v o k j) x m o sc L := h
/-- what the reference's call leaves -/
abbrev RF8 (v w : Mem) (m : Nat) : Prop := Fr v w (fun q => m ≤ q ∧ q < m + 8) (fun _ => False)
def RT2 (v : Mem) (m : Nat) (q val : Int) (f : RW) (s : Int) (P : RW) (kp : Int) (K b : RW) (n : Int) (g : RW) (s' : Int) (P' : RW) (kp' : Int) (K' b' : RW) (n' : Int) : Option SV → Mem → Prop := fun r w => RF8 v w m ∧ mI w m 11 = q ∧ ∃ a : Int, r = some (xI a) ∧ ((q = 0 ∧ a = val ∧ RRv w m g s' P' kp' K' b' n') ∨ (q ≠ 0 ∧ RRv w m f s P kp K b n))
/-- all that holds between two calls -/
def LI (D : DD) (v : Mem) (x m o sc L : Nat) (T : Int) : Prop := ∃ (f : RW) (s : Int) (P : RW) (kp : Int) (K b : RW) (n : Nat), RX v x f s P kp K T ∧ RXt v x b n ∧ n ≤ 60 ∧ RRo v x m o sc L ∧ RRv v m f s P kp K b n ∧ Sta D v x ∧ StaM D v x
theorem Sta.fr {D : DD} {u w : Mem} {x m : Nat} (h : Sta D u x) (hf : RF8 u w m) (hm : x + 150 ≤ m) : Sta D w x := by
  obtain ⟨h1, h2, h3⟩ := h
  exact ⟨h1, by rw [hf.1]; exact h2, fun i hi => by rw [hf.mI (by omega)]; exact h3 i hi⟩
theorem StaM.fr {D : DD} {u w : Mem} {x m : Nat} (h : StaM D u x) (hf : RF8 u w m) (hm : x + 150 ≤ m) : StaM D w x := by
  obtain ⟨⟨h1, h2, h3⟩, h4, h5, h6⟩ := h
  exact ⟨⟨h1, by rw [hf.1]; exact h2, fun i a b => by rw [hf.mI (by omega)]; exact h3 i a b⟩, h4, by rw [hf.1]; exact h5, fun i a b => by rw [hf.mI (by omega)]; exact h6 i a b⟩
/-- the class has gone, and then the reference -/
theorem LI.next {D : DD} {w w2 : Mem} {x m o sc L n' : Nat} {T T1 : Int} {g : RW} {s' : Int} {P' : RW} {kp' : Int} {K' b' : RW} (hX : RX w x g s' P' kp' K' T) (ht : RXt w x b' n') (hn : n' ≤ 60) (ho : RRo w x m o sc L) (hst : Sta D w x) (hsm : StaM D w x) (hf : RF8 w w2 m) (hv : RRv w2 m g s' P' kp' K' b' n') (hT : T ≤ T1) : LI D w2 x m o sc L T1 :=
  have hS : ∀ q, (m ≤ q ∧ q < m + 8) → Out w x q := fun q hq => ho.2.2.1 q (Or.inl hq)
  ⟨g, s', P', kp', K', b', n', (hX.fr hf hS).more hT, ht.fr hf hS, hn, ho.fr hf, hv, hst.fr hf ho.2.2.2, hsm.fr hf ho.2.2.2⟩
