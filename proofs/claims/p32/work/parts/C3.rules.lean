/-! ===== the law's own arrays, its looks at the relay ===== -/
/-- changes beside the relay leave it as it is -/
theorem RX.out {u w : Mem} {x : Nat} {f : RW} {s : Int} {P : RW} {kp : Int} {K : RW} {T : Int} (h : RX u x f s P kp K T) (hn : mN u ≤ mN w) (e : ∀ q, q < mN u → ¬ Out u x q → mSh w q = mSh u q ∧ mI w q = mI u q ∧ mP w q = mP u q) : RX w x f s P kp K T := by
  obtain ⟨ho, hq, ⟨hR, hI⟩, ⟨s1, s2, s3⟩, hk⟩ := h
  have hN := hq.1
  have g0 : ∀ q, x ≤ q → q < x + 150 → mSh w q = mSh u q ∧ mI w q = mI u q ∧ mP w q = mP u q := fun q h1 h2 => e q (by omega) fun z => z.2.1 ⟨h1, h2⟩
  have g1 : ∀ i, i < 8 → ∀ a, qS u x i = some a → Lo u w a 146 := fun i hi a ha q h1 h2 => e q (by have := (hq.2.1 i hi a ha).1; omega) fun z => z.2.2 i hi a ha ⟨h1, h2⟩
  have hsl : ∀ k, k < 8 → qS w x k = qS u x k := fun k hk => by unfold qS; rw [(g0 (qR x k) (by unfold qR; split <;> omega) (by unfold qR; split <;> omega)).2.2]
  refine ⟨?_, ⟨by omega, fun i hi a ha => ?_, fun i j hi hj hne a b ha hb => ?_⟩, ⟨hR.loc hI.b (fun q h1 h2 => g0 q (by omega) (by omega)), hI⟩, ⟨by rw [(g0 x (by omega) (by omega)).2.1]; exact s1, s2, fun k hk' => ?_⟩, ?_⟩
  · unfold RXo TeO at *
    rw [(g0 x (by omega) (by omega)).1, (g0 x (by omega) (by omega)).2.2, (g0 (x + 147) (by omega) (by omega)).1, (g0 (x + 148) (by omega) (by omega)).1, (g0 (x + 148) (by omega) (by omega)).2.2, (g0 (x + 148 + 1) (by omega) (by omega)).1]
    exact ho
  · rw [hsl i hi] at ha
    obtain ⟨b1, b2⟩ := hq.2.1 i hi a ha
    exact ⟨⟨b1.1, by omega⟩, b2.loc fun q h1 h2 => ⟨(g1 i hi a ha q h1 h2).1, (g1 i hi a ha q h1 h2).2.2⟩⟩
  · rw [hsl i hi] at ha
    rw [hsl j hj] at hb
    exact hq.2.2 i j hi hj hne a b ha hb
  · obtain ⟨b, b1, b2, b3⟩ := s3 k hk'
    exact ⟨b, (hsl k (by omega)).trans b1, b2.loc b3.b (g1 k (by omega) b b1), b3⟩
  · rcases hk with ⟨k1, k2⟩ | ⟨k1, b, b1, b2, b3⟩
    · exact Or.inl ⟨k1, (hsl 6 (by decide)).trans k2⟩
    · exact Or.inr ⟨k1, b, (hsl 6 (by decide)).trans b1, b2.loc b3.b (g1 6 (by decide) b b1), b3⟩
theorem Out.out {u w : Mem} {x q : Nat} {f : RW} {s : Int} {P : RW} {kp : Int} {K : RW} {T : Int} (h : RX u x f s P kp K T) (hn : mN u ≤ mN w) (e : ∀ q, q < mN u → ¬ Out u x q → mSh w q = mSh u q ∧ mI w q = mI u q ∧ mP w q = mP u q) (hq : Out u x q) : Out w x q := by
  have hN := h.2.1.1
  have hsl : ∀ k, k < 8 → qS w x k = qS u x k := fun k hk => by unfold qS; rw [(e (qR x k) (by unfold qR; split <;> omega) (fun z => z.2.1 (by unfold qR; split <;> omega))).2.2]
  exact ⟨by have := hq.1; omega, hq.2.1, fun i hi a ha => hq.2.2 i hi a (by rw [← hsl i hi]; exact ha)⟩
/-- an array of three numbers beside the relay -/
def Arr (w : Mem) (x a : Nat) : Prop := mSh w a = some (.inr (0, 3)) ∧ Out w x a
theorem Arr.kp {u w : Mem} {x a : Nat} (h : Arr u x a) (k : Kp u w x) : Arr w x a ∧ mI w a = mI u a := by
  obtain ⟨k1, k2, k3, -⟩ := k.2 a h.2
  exact ⟨⟨k2.trans h.1, k1⟩, k3⟩
theorem RX.newA {u : Mem} {x : Nat} {f : RW} {s : Int} {P : RW} {kp : Int} {K : RW} {T : Int} (h : RX u x f s P kp K T) : RX (nC u (some (.inr (0, 3)))) x f s P kp K T ∧ Kp u (nC u (some (.inr (0, 3)))) x ∧ Arr (nC u (some (.inr (0, 3)))) x (mN u) ∧ mI (nC u (some (.inr (0, 3)))) (mN u) = fun _ => 0 := by
  have hN : mN u ≤ mN (nC u (some (.inr (0, 3)))) := by rw [mN_nC]; omega
  have e : ∀ q, q < mN u → mSh (nC u (some (.inr (0, 3)))) q = mSh u q ∧ mI (nC u (some (.inr (0, 3)))) q = mI u q ∧ mP (nC u (some (.inr (0, 3)))) q = mP u q ∧ mJ (nC u (some (.inr (0, 3)))) q = mJ u q := fun q hq => ⟨by rw [mSh_nC, if_neg (by omega)], by funext j; rw [mI_nC, if_neg (by omega)], by funext j; rw [mP_nC, if_neg (by omega)], by funext j; rw [mJ_nC, if_neg (by omega)]⟩
  have e3 : ∀ q, q < mN u → ¬ Out u x q → mSh (nC u (some (.inr (0, 3)))) q = mSh u q ∧ mI (nC u (some (.inr (0, 3)))) q = mI u q ∧ mP (nC u (some (.inr (0, 3)))) q = mP u q := fun q hq _ => ⟨(e q hq).1, (e q hq).2.1, (e q hq).2.2.1⟩
  have h2 := h.out hN e3
  refine ⟨h2, ⟨hN, fun q hq => ⟨Out.out h hN e3 hq, e q hq.1⟩⟩, ⟨by rw [mSh_nC, if_pos rfl], by rw [mN_nC]; omega, fun z => by have := h.2.1.1; omega, fun i hi a ha z => ?_⟩, by funext j; rw [mI_nC, if_pos rfl]⟩
  have hsl : qS (nC u (some (.inr (0, 3)))) x i = qS u x i := by unfold qS; rw [(e (qR x i) (by have := h.2.1.1; unfold qR; split <;> omega)).2.2.1]
  rw [hsl] at ha
  have := (h.2.1.2.1 i hi a ha).1
  omega
theorem RX.st {w : Mem} {x a : Nat} {f : RW} {s : Int} {P : RW} {kp : Int} {K : RW} {T : Int} (h : RX w x f s P kp K T) (ha : Arr w x a) (k v : Int) : RX (sI w a k v) x f s P kp K T ∧ (∀ b, Arr w x b → Arr (sI w a k v) x b) ∧ ∀ u, Kp u w x → mN u ≤ a → Kp u (sI w a k v) x := by
  have e3 : ∀ q, q < mN w → ¬ Out w x q → mSh (sI w a k v) q = mSh w q ∧ mI (sI w a k v) q = mI w q ∧ mP (sI w a k v) q = mP w q := fun q _ hq => ⟨rfl, up_mI_n _ _ _ (fun e => hq (e ▸ ha.2)), rfl⟩
  refine ⟨h.out (Nat.le_refl _) e3, fun b hb => ⟨hb.1, Out.out h (Nat.le_refl _) e3 hb.2⟩, fun u hk hu => ⟨hk.1, fun q hq => ?_⟩⟩
  obtain ⟨k1, k2, k3, k4, k5⟩ := hk.2 q hq
  exact ⟨Out.out h (Nat.le_refl _) e3 k1, k2, (up_mI_n _ _ _ (by have := hq.1; omega)).trans k3, k4, k5⟩
section LK
variable {C : Cx} {cc : ByteArray} {R : Room} {nL : Nat} {pc : Nat} {lv : LV} {st : List SV} {u : Mem} {c z : Nat}
theorem r_ldc {own : String} (hC : CxOK C cc own R nL) {i : Nat} {j : Int32} {v : Int} (hd : decode cc pc = .ok (.ldc i, 2)) (hw : Cond.constant own i j ∈ wAll) (hv : Int32.ofInt v = j) (kk : VW C (pc + 2) lv (xI v :: st) u c z) : VW C pc lv st u c z := by
  obtain ⟨p, l, e, R, s, m, args, below, meth, cd, Q, D⟩ := C
  obtain ⟨hx, hb, hml, hown, hts, ⟨hK, hKX⟩, hR, hbs, hfl, hlk⟩ := hC
  subst hv
  intro H locs ls hu hS hl
  exact lv_ldc hx hb hown (hts _ hw) hd (kk H locs ls hu hS hl)
variable {x : Nat} {f : RW} {s : Int} {P : RW} {kp : Int} {K : RW} {T : Int}
theorem r_look (hC : CxOK C cc RL R nL) {y : MethodName} {b : ByteArray} {mL idx n : Nat} {rt : Option FieldType} {rm : Room} {as : List SV} (hd : decode cc pc = .ok (.invokevirtual idx, 3)) (hm : MI y b mL rt n) (hse : Cond.selects y.cls y y ∈ wAll ∧ Cond.instanceMethod y ∈ wAll) (hlk : Cond.methodLink RL idx y ∈ wAll) (hR : rm.frames + 1 ≤ R.frames ∧ 8 + (mL + 11) + rm.locals ≤ R.locals) (hs : mSh u x = some (.inl 7)) (hcn : RX7 = y.cls) (hn : as.length = n) (hw : (st.map fun v => ca_t v).sum ≤ 8) (hc : c + rm.cells ≤ R.cells) (hz : z + rm.slots ≤ R.slots) {q : Int} {v : SV} {es : List String}
    (hct : CTX (cxL C) (cxD C) y b mL rt rm (xA x :: as) u (xP q (RT v u)) (xQ u q es)) (hq : q = 0) (kk : VW C (pc + 3) lv (v :: st) u (c + rm.cells) (z + rm.slots)) {st0 : List SV} (h0 : as.reverse ++ xA x :: st = st0) : VW C pc lv st0 u c z := by
  refine r_callX hC hd hm hse hlk hR hs (rv := (RX7, TX7, 6)) rfl hcn hn hw hc hz hct ?_ ?_ h0
  · rintro r u1 ⟨-, rfl, rfl⟩; exact kk
  · rintro E q1 u1 ⟨⟨i, hi, -⟩, -⟩; omega
theorem r_lrow (hC : CxOK C cc RL R nL) (hfC : (cxL C).stackTraces = false) {idx : Nat} (hd : decode cc pc = .ok (.invokevirtual idx, 3)) (hlk : Cond.methodLink RL idx yX7_row ∈ wAll) (hR : 7 ≤ R.frames ∧ 120 ≤ R.locals) (hX : RX u x f s P kp K T) {i w v : Int} (hi : 0 ≤ i ∧ i < m_kept f) (hw : 0 ≤ w ∧ w ≤ 7) (hv : m_rowV f (m_keptAt f i.toNat) w = v) (hst : (st.map fun v => ca_t v).sum ≤ 8) (hc : c + 1 ≤ R.cells) (hz : z + 6 ≤ R.slots) (kk : VW C (pc + 3) lv (xI v :: st) u (c + 1) (z + 6)) : VW C pc lv (xI w :: xI i :: xA x :: st) u c z := by
  subst hv
  have := hX.2.2.1.2.co.2.2.1
  refine r_look hC hd mi_X7_row se_X7_row hlk (rm := rmX7_row) (as := [xI i, xI w]) ⟨hR.1, Nat.le_trans (le_b rfl) hR.2⟩ hX.1.1 rfl rfl hst hc hz (k_Rl_row hfC hX ⟨by omega, by omega⟩ ⟨by omega, by omega⟩) ?_ kk rfl
  unfold q_row
  rw [if_neg (fun z => z (by omega)), if_neg (fun z => z (by omega))]
theorem r_ltran (hC : CxOK C cc RL R nL) (hfC : (cxL C).stackTraces = false) {idx : Nat} (hd : decode cc pc = .ok (.invokevirtual idx, 3)) (hlk : Cond.methodLink RL idx yX7_transaction ∈ wAll) (hR : 7 ≤ R.frames ∧ 120 ≤ R.locals) (hX : RX u x f s P kp K T) {i w v : Int} (hi : 0 ≤ i ∧ i ≤ 3) (hw : 0 ≤ w ∧ w ≤ 2) (hv : m_transV f i w = v) (hst : (st.map fun v => ca_t v).sum ≤ 8) (hc : c + 1 ≤ R.cells) (hz : z + 6 ≤ R.slots) (kk : VW C (pc + 3) lv (xI v :: st) u (c + 1) (z + 6)) : VW C pc lv (xI w :: xI i :: xA x :: st) u c z := by
  subst hv
  refine r_look hC hd mi_X7_transaction se_X7_transaction hlk (rm := rmX7_transaction) (as := [xI i, xI w]) ⟨hR.1, Nat.le_trans (le_b rfl) hR.2⟩ hX.1.1 rfl rfl hst hc hz (k_Rl_transaction hfC hX ⟨by omega, by omega⟩ ⟨by omega, by omega⟩) ?_ kk rfl
  unfold q_trans
  rw [if_neg (fun z => z (by omega)), if_neg (fun z => z (by omega))]
theorem r_lrecv (hC : CxOK C cc RL R nL) (hfC : (cxL C).stackTraces = false) {idx : Nat} (hd : decode cc pc = .ok (.invokevirtual idx, 3)) (hlk : Cond.methodLink RL idx yX7_receiver ∈ wAll) (hR : 7 ≤ R.frames ∧ 120 ≤ R.locals) (hX : RX u x f s P kp K T) {i w v : Int} (hi : 0 ≤ i ∧ i ≤ 2) (hw : 0 ≤ w ∧ w ≤ 13) (hv : m_recvV f i w = v) (hst : (st.map fun v => ca_t v).sum ≤ 8) (hc : c + 1 ≤ R.cells) (hz : z + 6 ≤ R.slots) (kk : VW C (pc + 3) lv (xI v :: st) u (c + 1) (z + 6)) : VW C pc lv (xI w :: xI i :: xA x :: st) u c z := by
  subst hv
  refine r_look hC hd mi_X7_receiver se_X7_receiver hlk (rm := rmX7_receiver) (as := [xI i, xI w]) ⟨hR.1, Nat.le_trans (le_b rfl) hR.2⟩ hX.1.1 rfl rfl hst hc hz (k_Rl_receiver hfC hX ⟨by omega, by omega⟩ ⟨by omega, by omega⟩) ?_ kk rfl
  unfold q_recv
  rw [if_neg (fun z => z (by omega)), if_neg (fun z => z (by omega))]
theorem r_lmsg (hC : CxOK C cc RL R nL) (hfC : (cxL C).stackTraces = false) {idx : Nat} (hd : decode cc pc = .ok (.invokevirtual idx, 3)) (hlk : Cond.methodLink RL idx yX7_message ∈ wAll) (hR : 7 ≤ R.frames ∧ 120 ≤ R.locals) (hX : RX u x f s P kp K T) {i w v : Int} (hi : 0 ≤ i ∧ i < f 9) (hw : 0 ≤ w ∧ w ≤ 4) (hv : m_msgV f (m_ranked f i) w = v) (hst : (st.map fun v => ca_t v).sum ≤ 8) (hc : c + 1 ≤ R.cells) (hz : z + 6 ≤ R.slots) (kk : VW C (pc + 3) lv (xI v :: st) u (c + 1) (z + 6)) : VW C pc lv (xI w :: xI i :: xA x :: st) u c z := by
  subst hv
  have := hX.2.2.1.2.nine
  refine r_look hC hd mi_X7_message se_X7_message hlk (rm := rmX7_message) (as := [xI i, xI w]) ⟨hR.1, Nat.le_trans (le_b rfl) hR.2⟩ hX.1.1 rfl rfl hst hc hz (k_Rl_message hfC hX ⟨by omega, by omega⟩ ⟨by omega, by omega⟩) ?_ kk rfl
  unfold q_msg
  rw [if_neg (fun z => z (by omega)), if_neg (fun z => z (by omega))]
theorem r_lcnt (hC : CxOK C cc RL R nL) (hfC : (cxL C).stackTraces = false) {idx : Nat} (hd : decode cc pc = .ok (.invokevirtual idx, 3)) (hlk : Cond.methodLink RL idx yX7_count ∈ wAll) (hR : 7 ≤ R.frames ∧ 120 ≤ R.locals) (hX : RX u x f s P kp K T) {w v : Int} (hw : 0 ≤ w ∧ w ≤ 11) (hv : m_countV f s w = v) (hst : (st.map fun v => ca_t v).sum ≤ 8) (hc : c + 1 ≤ R.cells) (hz : z + 6 ≤ R.slots) (kk : VW C (pc + 3) lv (xI v :: st) u (c + 1) (z + 6)) : VW C pc lv (xI w :: xA x :: st) u c z := by
  subst hv
  refine r_look hC hd mi_X7_count se_X7_count hlk (rm := rmX7_count) (as := [xI w]) ⟨hR.1, Nat.le_trans (le_b rfl) hR.2⟩ hX.1.1 rfl rfl hst hc hz (k_Rl_count hfC hX ⟨by omega, by omega⟩) ?_ kk rfl
  unfold q_count
  rw [if_neg (fun z => z (by omega))]
theorem r_lset (hC : CxOK C cc RL R nL) (hfC : (cxL C).stackTraces = false) {idx : Nat} (hd : decode cc pc = .ok (.invokevirtual idx, 3)) (hlk : Cond.methodLink RL idx yX7_setting ∈ wAll) (hR : 7 ≤ R.frames ∧ 120 ≤ R.locals) (hX : RX u x f s P kp K T) {w v : Int} (hw : 0 ≤ w ∧ w ≤ 6) (hv : f (10 + w) = v) (hst : (st.map fun v => ca_t v).sum ≤ 8) (hc : c + 1 ≤ R.cells) (hz : z + 6 ≤ R.slots) (kk : VW C (pc + 3) lv (xI v :: st) u (c + 1) (z + 6)) : VW C pc lv (xI w :: xA x :: st) u c z := by
  subst hv
  refine r_look hC hd mi_X7_setting se_X7_setting hlk (rm := rmX7_setting) (as := [xI w]) ⟨hR.1, Nat.le_trans (le_b rfl) hR.2⟩ hX.1.1 rfl rfl hst hc hz (k_Rl_setting hfC hX ⟨by omega, by omega⟩) ?_ kk rfl
  unfold q_sett
  rw [if_neg (fun z => z (by omega))]
theorem r_lskip (hC : CxOK C cc RL R nL) (hfC : (cxL C).stackTraces = false) {idx : Nat} (hd : decode cc pc = .ok (.invokevirtual idx, 3)) (hlk : Cond.methodLink RL idx yX7_skips ∈ wAll) (hR : 7 ≤ R.frames ∧ 120 ≤ R.locals) (hX : RX u x f s P kp K T) {i w v : Int} (hi : 0 ≤ i ∧ i ≤ 3) (hw : 0 ≤ w ∧ w ≤ 2) (hv : m_skip f i w = v) (hst : (st.map fun v => ca_t v).sum ≤ 8) (hc : c + 1 ≤ R.cells) (hz : z + 6 ≤ R.slots) (kk : VW C (pc + 3) lv (xI v :: st) u (c + 1) (z + 6)) : VW C pc lv (xI w :: xI i :: xA x :: st) u c z := by
  subst hv
  refine r_look hC hd mi_X7_skips se_X7_skips hlk (rm := rmX7_skips) (as := [xI i, xI w]) ⟨hR.1, Nat.le_trans (le_b rfl) hR.2⟩ hX.1.1 rfl rfl hst hc hz (k_Rl_skips hfC hX ⟨by omega, by omega⟩ ⟨by omega, by omega⟩) ?_ kk rfl
  unfold q_skips
  rw [if_neg (fun z => by omega)]
/-- a change that isn't refused -/
theorem r_mut (hC : CxOK C cc RL R nL) {y : MethodName} {b : ByteArray} {mL idx n : Nat} {rm : Room} {as : List SV} (hd : decode cc pc = .ok (.invokevirtual idx, 3)) (hm : MI y b mL (some .int) n) (hse : Cond.selects y.cls y y ∈ wAll ∧ Cond.instanceMethod y ∈ wAll) (hlk : Cond.methodLink RL idx y ∈ wAll) (hR : rm.frames + 1 ≤ R.frames ∧ 8 + (mL + 11) + rm.locals ≤ R.locals) (hs : mSh u x = some (.inl 7)) (hcn : RX7 = y.cls) (hn : as.length = n) (hw : (st.map fun v => ca_t v).sum ≤ 8) (hc : c + rm.cells ≤ R.cells) (hz : z + rm.slots ≤ R.slots) {q v : Int} {es : List String} {g : RW} {T1 : Int}
    (hct : CTX (cxL C) (cxD C) y b mL (some .int) rm (xA x :: as) u (xP q (MutP u x g s P f kp K T1 v)) (xQ u q es)) (hq : q = 0) (kk : ∀ w : Mem, RX w x g (m_savedN s) (m_saved P f s) kp K T1 → Kp u w x → VW C (pc + 3) lv (xI v :: st) w (c + rm.cells) (z + rm.slots)) {st0 : List SV} (h0 : as.reverse ++ xA x :: st = st0) : VW C pc lv st0 u c z := by
  refine r_callX hC hd hm hse hlk hR hs (rv := (RX7, TX7, 6)) rfl hcn hn hw hc hz hct ?_ ?_ h0
  · rintro r u1 ⟨-, rfl, h1, h2, -⟩; exact kk u1 h1 h2
  · rintro E q1 u1 ⟨⟨i, hi, -⟩, -⟩; omega
end LK
set_option maxRecDepth 100000 in
theorem kc_L_7 : Cond.constant RL 7 22310023 ∈ wAll := in_at 579 (by decide +kernel) (by decide +kernel)
set_option maxRecDepth 100000 in
theorem kc_L_8 : Cond.constant RL 8 2147483647 ∈ wAll := in_at 583 (by decide +kernel) (by decide +kernel)
