/-! ===== what lies beside the relay: the reference, the row that answers come in, the script ===== -/
theorem CT.mono {l : Launch} {D : DD} {y : MethodName} {b : ByteArray} {mL : Nat} {rt : Option FieldType} {rm : Room} {as : List SV} {u : Mem} {post post' : Option SV → Mem → Prop} (h : CT l D y b mL rt rm as u post) (hp : ∀ r w, post r w → post' r w) : CT l D y b mL rt rm as u post' := by
  intro p e h1 h2 h3 s m args below h4 h5 h6 h7
  obtain ⟨n, o, a1, a2, a3, ⟨r, u1, b1, b2, b3⟩, a5⟩ := h p e h1 h2 h3 s m args below h4 h5 h6 h7
  exact ⟨n, o, a1, a2, a3, ⟨r, u1, b1, hp _ _ b2, b3⟩, a5⟩
theorem vw_widen {C : Cx} {pc : Nat} {lv : LV} {st : List SV} {u : Mem} {c z c' z' : Nat} (h1 : c ≤ c') (h2 : z ≤ z') (k : VW C pc lv st u c' z') : VW C pc lv st u c z := by
  obtain ⟨p, l, e, R1, s, m, args, below, meth, cd, Q, D⟩ := C
  intro H locs ls hu hS hl
  exact W.widen h1 h2 (k H locs ls hu hS hl)
/-- changes beside the relay leave it as it is -/
theorem RX.fr {u w : Mem} {x : Nat} {S : Nat → Prop} {f : RW} {s : Int} {P : RW} {kp : Int} {K : RW} {T : Int} (h : RX u x f s P kp K T) (hf : Fr u w S (fun _ => False)) (hS : ∀ q, S q → Out u x q) : RX w x f s P kp K T := by
  obtain ⟨ho, hq, ⟨hR, hI⟩, ⟨s1, s2, s3⟩, hk⟩ := h
  have hsh : mSh w = mSh u := hf.1
  have hp : mP w = mP u := funext fun q => hf.mP id
  have hsl : ∀ k, qS w x k = qS u x k := fun k => by unfold qS; rw [hp]
  have g0 : ∀ q, x ≤ q → q < x + 150 → mI w q = mI u q := fun q h1 h2 => hf.mI fun z => (hS q z).2.1 ⟨h1, h2⟩
  have g1 : ∀ i, i < 8 → ∀ a, qS u x i = some a → Lo u w a 146 := fun i hi a ha q h1 h2 => ⟨by rw [hsh], hf.mI fun z => (hS q z).2.2 i hi a ha ⟨h1, h2⟩, by rw [hp]⟩
  refine ⟨?_, ⟨by rw [hf.2.1]; exact hq.1, fun i hi a ha => ?_, fun i j hi hj hne a b ha hb => ?_⟩, ⟨hR.loc hI.b (fun q h1 h2 => ⟨by rw [hsh], g0 q (by omega) (by omega), by rw [hp]⟩), hI⟩, ⟨by rw [g0 x (by omega) (by omega)]; exact s1, s2, fun k hk' => ?_⟩, ?_⟩
  · unfold RXo TeO at *
    rw [hsh, hp]; exact ho
  · rw [hsl] at ha
    obtain ⟨b1, b2⟩ := hq.2.1 i hi a ha
    exact ⟨by rw [hf.2.1]; exact b1, hf.stO b2⟩
  · rw [hsl] at ha hb
    exact hq.2.2 i j hi hj hne a b ha hb
  · obtain ⟨b, b1, b2, b3⟩ := s3 k hk'
    exact ⟨b, (hsl k).trans b1, b2.loc b3.b (g1 k (by omega) b b1), b3⟩
  · rcases hk with ⟨k1, k2⟩ | ⟨k1, b, b1, b2, b3⟩
    · exact Or.inl ⟨k1, (hsl 6).trans k2⟩
    · exact Or.inr ⟨k1, b, (hsl 6).trans b1, b2.loc b3.b (g1 6 (by decide) b b1), b3⟩
theorem Out.fr {u w : Mem} {x q : Nat} {S : Nat → Prop} (h : Out u x q) (hf : Fr u w S (fun _ => False)) : Out w x q := by
  have hp : mP w = mP u := funext fun q => hf.mP id
  have hsl : ∀ k, qS w x k = qS u x k := fun k => by unfold qS; rw [hp]
  exact ⟨by rw [hf.2.1]; exact h.1, h.2.1, fun i hi a ha => h.2.2 i hi a (by rw [← hsl]; exact ha)⟩
theorem RX.more {u : Mem} {x : Nat} {f : RW} {s : Int} {P : RW} {kp : Int} {K : RW} {T T1 : Int} (h : RX u x f s P kp K T) (hT : T ≤ T1) : RX u x f s P kp K T1 := (h.now (Blk.refl u _) h.2.2.1.1 (h.2.2.1.2.more hT) hT).1
/-- a thing more behind all -/
theorem RX.wN {u : Mem} {x n : Nat} {f : RW} {s : Int} {P : RW} {kp : Int} {K : RW} {T : Int} (h : RX u x f s P kp K T) (hn : mN u ≤ n) : RX (wN u n) x f s P kp K T := by
  obtain ⟨ho, hq, hS, hs, hk⟩ := h
  exact ⟨ho, ⟨Nat.le_trans hq.1 hn, fun i hi a ha => ⟨⟨(hq.2.1 i hi a ha).1.1, Nat.le_trans (hq.2.1 i hi a ha).1.2 hn⟩, (hq.2.1 i hi a ha).2⟩, hq.2.2⟩, hS, hs, hk⟩
