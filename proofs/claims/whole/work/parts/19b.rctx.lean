/-! deps: 19a -/
/-! ===== the class reads: what it stands on, its steps ===== -/
/-- rows X and fields Y may change, no more -/
def rf (cd : Nat → Nat) (X : Nat → Prop) (Y : Nat → Nat → Nat → Prop) (h h' : am_H) : Prop := am_K h' = am_K h ∧ am_N h' = am_N h ∧ am_R h' = am_R h ∧ am_C h' = am_C h ∧ am_B h' = am_B h ∧ (∀ a, (∀ k, X k → a ≠ cd k) → am_A h' a = am_A h a) ∧ (∀ c g a, (∀ k, Y c g k → a ≠ cd k) → am_I h' c g a = am_I h c g a ∧ am_J h' c g a = am_J h c g a)
def XA (wa k : Nat) : Prop := k = 34 ∨ (42 ≤ k ∧ k ≤ 46) ∨ (48 ≤ k ∧ k ≤ 54) ∨ (110 + 500 * (1 - wa) ≤ k ∧ k ≤ 157 + 500 * (1 - wa)) ∨ (200 + 500 * (1 - wa) ≤ k ∧ k ≤ 217 + 500 * (1 - wa))
def YA (wa c _g k : Nat) : Prop := (c = 2 ∧ k = 31) ∨ (c = 5 ∧ k = 32) ∨ (c = 0 ∧ k = 100 + 500 * (1 - wa)) ∨ (c = 4 ∧ 110 + 500 * (1 - wa) ≤ k ∧ k ≤ 157 + 500 * (1 - wa)) ∨ (c = 1 ∧ 200 + 500 * (1 - wa) ≤ k ∧ k ≤ 217 + 500 * (1 - wa))
/-- a FAULT -/
def ER {β : Type} (cd : Nat → Nat) (wa : Nat) (h0 : am_H) (r : Except pe β) (E : String) (h' : am_H) : Prop := E = am_ex 0 ∧ ∃ f pl hh, r = .error (f, pl) ∧ rf cd (XA wa) (YA wa) h0 hh ∧ am_U hh = am_U h0 ∧ am_V hh = am_V h0 ∧ h' = am_nX hh ∧ am_I hh 2 3 (cd 31) = Int32.ofNat f ∧ am_I hh 2 4 (cd 31) = Int32.ofNat pl
/-- reading, at p -/
def CX (tt : Nat → Nat) (h0 : am_H) (cd : Nat → Nat) (bb : Nat → Nat → Nat) (wa wt n : Nat) (h : am_H) (p : Nat) : Prop := cl_s h0 cd bb wa wt ∧ tk_s tt h0 ∧ rf cd (XA wa) (YA wa) h0 h ∧ am_U h = am_U h0 ∧ am_V h = am_V h0 ∧ cu_s h (cd 31) (cd (c_tb wt)) n p
section RA
variable {tt : Nat → Nat} {h0 h h' h'' : am_H} {cd : Nat → Nat} {bb : Nat → Nat → Nat} {wa wt n p : Nat} {X X' : Nat → Prop} {Y Y' : Nat → Nat → Nat → Prop}
theorem rf.re : rf cd X Y h h := ⟨rfl, rfl, rfl, rfl, rfl, fun _ _ => rfl, fun _ _ _ _ => ⟨rfl, rfl⟩⟩
theorem rf.tr (p : rf cd X Y h h') (q : rf cd X Y h' h'') : rf cd X Y h h'' := by
  obtain ⟨p1, p2, p3, p4, p5, p6, p7⟩ := p
  obtain ⟨q1, q2, q3, q4, q5, q6, q7⟩ := q
  exact ⟨q1.trans p1, q2.trans p2, q3.trans p3, q4.trans p4, q5.trans p5, fun a z => (q6 a z).trans (p6 a z), fun c g a z => ⟨(q7 c g a z).1.trans (p7 c g a z).1, (q7 c g a z).2.trans (p7 c g a z).2⟩⟩
theorem rf.mo (p : rf cd X Y h h') (hX : ∀ k, X k → X' k) (hY : ∀ c g k, Y c g k → Y' c g k) : rf cd X' Y' h h' := by
  obtain ⟨p1, p2, p3, p4, p5, p6, p7⟩ := p
  exact ⟨p1, p2, p3, p4, p5, fun a z => p6 a (fun k hk => z k (hX k hk)), fun c g a z => p7 c g a (fun k hk => z k (hY c g k hk))⟩
theorem rf.sA {k i : Nat} {v : Int32} (hk : X k) : rf cd X Y h (am_sA h (cd k) i v) := ⟨rfl, rfl, rfl, rfl, rfl, fun a z => by funext j; simp only [am_hs]; rw [if_neg (fun w => z k hk w.1)], fun _ _ _ _ => ⟨rfl, rfl⟩⟩
theorem rf.cA {k : Nat} {f : Nat → Int32} (hk : X k) : rf cd X Y h (am_cA h (cd k) f) := ⟨rfl, rfl, rfl, rfl, rfl, fun a z => by simp only [am_hs]; rw [if_neg (z k hk)], fun _ _ _ _ => ⟨rfl, rfl⟩⟩
theorem rf.sI {c g k : Nat} {v : Int32} (hk : Y c g k) : rf cd X Y h (am_sI h c g (cd k) v) := ⟨rfl, rfl, rfl, rfl, rfl, fun _ _ => rfl, fun c' g' a z => ⟨by
  simp only [am_hs]
  by_cases w : c' = c ∧ g' = g ∧ a = cd k
  · obtain ⟨rfl, rfl, rfl⟩ := w
    exact absurd rfl (z k hk)
  · rw [if_neg w], rfl⟩⟩
theorem rf.sJ {c g k : Nat} {v : Int64} (hk : Y c g k) : rf cd X Y h (am_sJ h c g (cd k) v) := ⟨rfl, rfl, rfl, rfl, rfl, fun _ _ => rfl, fun c' g' a z => ⟨rfl, by
  simp only [am_hs]
  by_cases w : c' = c ∧ g' = g ∧ a = cd k
  · obtain ⟨rfl, rfl, rfl⟩ := w
    exact absurd rfl (z k hk)
  · rw [if_neg w]⟩⟩
theorem rf.mv {q : Nat} (hk : Y 2 2 31) : rf cd X Y h (cp h (cd 31) q) := rf.sI hk
theorem rf.a (ci : ci_s cd bb) (r : rf cd X Y h h') {k : Nat} (hk : ¬ X k) : am_A h' (cd k) = am_A h (cd k) := r.2.2.2.2.2.1 _ (fun j hj e => hk (by rw [ci.1 _ _ e]; exact hj))
theorem rf.i (ci : ci_s cd bb) (r : rf cd X Y h h') {c g k : Nat} (hk : ¬ Y c g k) : am_I h' c g (cd k) = am_I h c g (cd k) := (r.2.2.2.2.2.2 c g _ (fun j hj e => hk (by rw [ci.1 _ _ e]; exact hj))).1
theorem rf.j (ci : ci_s cd bb) (r : rf cd X Y h h') {c g k : Nat} (hk : ¬ Y c g k) : am_J h' c g (cd k) = am_J h c g (cd k) := (r.2.2.2.2.2.2 c g _ (fun j hj e => hk (by rw [ci.1 _ _ e]; exact hj))).2
theorem CX.ci (x : CX tt h0 cd bb wa wt n h p) : ci_s cd bb := x.1.2.2.1
theorem CX.cl (x : CX tt h0 cd bb wa wt n h p) : cl_s h cd bb wa wt := x.1.t x.2.2.1.1 x.2.2.1.2.1 x.2.2.1.2.2.1 x.2.2.1.2.2.2.1
theorem CX.F (x : CX tt h0 cd bb wa wt n h p) : am_A h (cd (c_tb wt)) = am_A h0 (cd (c_tb wt)) := x.2.2.1.a x.ci (by have := x.1.1; have := x.1.2.1; unfold XA c_tb; omega)
/-- what every step reads -/
theorem CX.f (x : CX tt h0 cd bb wa wt n h p) : am_K h (cd 31) = 3 ∧ am_K h (cd 32) = 6 ∧ am_K h (cd 33) = 4 ∧ am_R h 5 0 (cd 32) = some (cd 31) ∧ am_R h 3 0 (cd 33) = some (cd 31) ∧ am_R h 3 1 (cd 33) = some (cd 34) ∧ am_K h (cd 34) = 24 ∧ am_N h (cd 34) = 24 ∧ am_I h 2 2 (cd 31) = Int32.ofNat p ∧
    (am_R h 5 2 (cd 32) = some (cd 42) ∧ am_K h (cd 42) = 21 ∧ am_N h (cd 42) = 6) ∧ (am_R h 5 3 (cd 32) = some (cd 43) ∧ am_K h (cd 43) = 21 ∧ am_N h (cd 43) = 6) ∧ (am_R h 5 4 (cd 32) = some (cd 44) ∧ am_K h (cd 44) = 21 ∧ am_N h (cd 44) = 6) ∧ (am_R h 5 5 (cd 32) = some (cd 45) ∧ am_K h (cd 45) = 21 ∧ am_N h (cd 45) = 6) ∧ (am_R h 5 6 (cd 32) = some (cd 46) ∧ am_K h (cd 46) = 21 ∧ am_N h (cd 46) = 6) ∧
    (am_R h 5 8 (cd 32) = some (cd 48) ∧ am_K h (cd 48) = 21 ∧ am_N h (cd 48) = 24) ∧ (am_R h 5 9 (cd 32) = some (cd 49) ∧ am_K h (cd 49) = 21 ∧ am_N h (cd 49) = 24) ∧ (am_R h 5 10 (cd 32) = some (cd 50) ∧ am_K h (cd 50) = 21 ∧ am_N h (cd 50) = 24) ∧ (am_R h 5 11 (cd 32) = some (cd 51) ∧ am_K h (cd 51) = 21 ∧ am_N h (cd 51) = 3) ∧ (am_R h 5 12 (cd 32) = some (cd 52) ∧ am_K h (cd 52) = 21 ∧ am_N h (cd 52) = 3) ∧ (am_R h 5 13 (cd 32) = some (cd 53) ∧ am_K h (cd 53) = 21 ∧ am_N h (cd 53) = 3) ∧ (am_R h 5 14 (cd 32) = some (cd 54) ∧ am_K h (cd 54) = 24 ∧ am_N h (cd 54) = 3) := by
  obtain ⟨r1, r2, r3, r4, r5, r6, r7, r8, r9, r10, r11, r12, r13⟩ := x.cl.2.2.2.2.2.2
  have g : ∀ k a b, k < 15 → skl.getD k (0, 0) = (a, b) → a ≠ 0 → am_R h 5 k (cd 32) = some (cd (40 + k)) ∧ am_K h (cd (40 + k)) = a ∧ am_N h (cd (40 + k)) = b := by
    intro k a b hk e ha
    have := r8 k hk
    rw [e] at this
    exact this.resolve_left ha
  exact ⟨r5, r6, r9, r7, r10, r11, r12, r13, x.2.2.2.2.2.2.2.2.2.2.2.1, g 2 _ _ (by decide) rfl (by decide), g 3 _ _ (by decide) rfl (by decide), g 4 _ _ (by decide) rfl (by decide), g 5 _ _ (by decide) rfl (by decide), g 6 _ _ (by decide) rfl (by decide), g 8 _ _ (by decide) rfl (by decide), g 9 _ _ (by decide) rfl (by decide), g 10 _ _ (by decide) rfl (by decide), g 11 _ _ (by decide) rfl (by decide), g 12 _ _ (by decide) rfl (by decide), g 13 _ _ (by decide) rfl (by decide), g 14 _ _ (by decide) rfl (by decide)⟩
theorem CX.p5 (x : CX tt h0 cd bb wa wt n h p) : p ≤ n ∧ n ≤ 5000 := ⟨x.2.2.2.2.2.2.2.2.2.2.2.2.1, x.2.2.2.2.2.2.2.2.2.1⟩
/-- on, with fields and rows that reading may change -/
theorem CX.on (x : CX tt h0 cd bb wa wt n h p) (r : rf cd (XA wa) (YA wa) h h') (hU : am_U h' = am_U h) (hV : am_V h' = am_V h) (hI : ∀ g, g = 1 ∨ g = 2 → am_I h' 2 g (cd 31) = am_I h 2 g (cd 31)) : CX tt h0 cd bb wa wt n h' p := by
  obtain ⟨x1, x2, x3, x4, x5, s1, s2, s3, s4, s5, s6, s7, s8, s9, s10⟩ := x
  refine ⟨x1, x2, x3.tr r, hU.trans x4, hV.trans x5, ?_, ?_, ?_, ?_, s5, ?_, ?_, s8, ?_, ?_⟩
  · rw [r.1]; exact s1
  · rw [r.2.2.1]; exact s2
  · rw [r.1]; exact s3
  · rw [r.2.1]; exact s4
  · rw [hI 1 (by omega)]; exact s6
  · rw [hI 2 (by omega)]; exact s7
  · rw [hU]; exact s9
  · rw [hV]; exact s10
theorem CX.mv (x : CX tt h0 cd bb wa wt n h p) {q : Nat} (hq : q ≤ n) : CX tt h0 cd bb wa wt n (cp h (cd 31) q) q := ⟨x.1, x.2.1, x.2.2.1.tr (rf.mv (by unfold YA; omega)), x.2.2.2.1, x.2.2.2.2.1, cu_cp x.2.2.2.2.2 hq⟩
theorem CX.er (x : CX tt h0 cd bb wa wt n h p) {α β : Type} {r0 : Except pe α} {r : Except pe β} (hr : ∀ e, r0 = .error e → r = .error e) {E : String} {h' : am_H} (q : erp h (cd 31) r0 E h') : ER cd wa h0 r E h' := by
  obtain ⟨q1, f, pl, p', q2, q3⟩ := q
  refine ⟨q1, f, pl, am_sI (am_sI (cp h (cd 31) p') 2 3 (cd 31) (Int32.ofNat f)) 2 4 (cd 31) (Int32.ofNat pl), hr _ q2, ?_, x.2.2.2.1, x.2.2.2.2.1, q3, ?_, ?_⟩
  · exact ((x.2.2.1.tr (rf.mv (by unfold YA; omega))).tr (rf.sI (by unfold YA; omega))).tr (rf.sI (by unfold YA; omega))
  · simp only [am_hs, true_and, and_true, and_self, true_or, or_true, false_or, or_false, false_and, and_false, not_true_eq_false, not_false_eq_true, Classical.not_not, true_implies, false_implies, implies_true, exists_eq_left, exists_eq_left', Option.some.injEq, reduceIte, Nat.reduceEqDiff, Nat.reduceLT, Nat.reduceLeDiff, Nat.reduceAdd, Nat.reduceSub, Nat.reduceMul, eq_self, ne_eq, and_imp, forall_const, reduceCtorEq, am_w, List.map_cons, List.map_nil, List.sum_cons, List.sum_nil, Value.category, Nat.zero_le, Nat.le_refl]
  · simp only [am_hs, true_and, and_true, and_self, true_or, or_true, false_or, or_false, false_and, and_false, not_true_eq_false, not_false_eq_true, Classical.not_not, true_implies, false_implies, implies_true, exists_eq_left, exists_eq_left', Option.some.injEq, reduceIte, Nat.reduceEqDiff, Nat.reduceLT, Nat.reduceLeDiff, Nat.reduceAdd, Nat.reduceSub, Nat.reduceMul, eq_self, ne_eq, and_imp, forall_const, reduceCtorEq, am_w, List.map_cons, List.map_nil, List.sum_cons, List.sum_nil, Value.category, Nat.zero_le, Nat.le_refl]
theorem CX.x (x : CX tt h0 cd bb wa wt n h p) {β : Type} {v : Nat} {k : Unit → Nat → Except pe β} {r : Except pe β} (hr : r = bd (tX (am_A h0 (cd (c_tb wt))) n p v) k) {G : am_H → Prop} (hG : ∀ h2, h2 = cp h (cd 31) (p + 1) → CX tt h0 cd bb wa wt n h2 (p + 1) → r = k () (p + 1) → G h2) :
    am_K h (cd 31) = 3 ∧ ∃ (Q3 : am_H → Prop) (X3 : String → am_H → Prop), am_Ct tt 27 [.ref (cd 31), .int (Int32.ofNat v)] h (am_pV Q3 X3) ∧ (∀ h2, Q3 h2 → G h2) ∧ (∀ E h2, X3 E h2 → ER cd wa h0 r E h2) := by
  have c := ct_expect (tt := tt) (v := v) x.2.2.2.2.2
  rw [x.F] at c
  refine ⟨x.f.1, _, _, c, fun h2 e => ?_, fun E h2 e => x.er (fun e' he => by rw [hr, bd_er he]) e⟩
  obtain ⟨p', e1, e2, e3⟩ := e
  have ep : p' = p + 1 := by
    unfold tX at e1
    split at e1
    · split at e1
      · cases e1; rfl
      · cases e1
    · cases e1
  subst ep
  exact hG h2 e3 (by rw [e3]; exact x.mv e2) (by rw [hr, bd_ok e1])
theorem tN_p {F : Fn} {n p q : Nat} {l m v : Int64} (h : tN F n p l m = .ok (v, q)) : p < q ∧ q ≤ n ∧ ¬ v < l ∧ ¬ m < v := by
  unfold tN at h
  split at h
  · simp only [] at h
    split at h
    · split at h
      · cases h
      · split at h
        · cases h
        · next c1 c2 c3 c4 =>
          cases h
          exact ⟨by omega, by omega, fun z => c4 (Or.inl z), fun z => c4 (Or.inr z)⟩
    · cases h
  · cases h
theorem tN_n {F : Fn} {n p q a b : Nat} {v : Int64} (ha : a < 9223372036854775808) (hb : b < 9223372036854775808) (h : tN F n p (l64 a) (l64 b) = .ok (v, q)) : ∃ k, v = Int64.ofNat k ∧ a ≤ k ∧ k ≤ b ∧ v.toNatClampNeg = k := by
  obtain ⟨-, -, h1, h2⟩ := tN_p h
  have h3 : ¬ v < Int64.ofNat 0 := by
    intro z
    rw [Int64.lt_iff_toInt_lt] at z h1
    have e0 : (Int64.ofNat 0).toInt = 0 := rfl
    rw [show (l64 a).toInt = (a : Int) from Int64.toInt_ofNat_of_lt ha] at h1
    omega
  obtain ⟨k, hk, rfl⟩ := ql_ge0 v h3
  rw [show l64 a = Int64.ofNat a from rfl, ql_lt hk ha] at h1
  rw [show l64 b = Int64.ofNat b from rfl, ql_lt hb hk] at h2
  exact ⟨k, rfl, by omega, by omega, Int64.toNatClampNeg_ofNat_of_lt hk⟩
theorem CX.nu (x : CX tt h0 cd bb wa wt n h p) {β : Type} {l m : Int64} {k : Int64 → Nat → Except pe β} {r : Except pe β} (hr : r = bd (tN (am_A h0 (cd (c_tb wt))) n p l m) k) {G : Int64 → am_H → Prop} (hG : ∀ v q h2, tN (am_A h0 (cd (c_tb wt))) n p l m = .ok (v, q) → h2 = cp h (cd 31) q → CX tt h0 cd bb wa wt n h2 q → r = k v q → G v h2) :
    am_K h (cd 31) = 3 ∧ ∃ (Q3 : Int64 → am_H → Prop) (X3 : String → am_H → Prop), am_Ct tt 29 [.ref (cd 31), .long l, .long m] h (am_pL Q3 X3) ∧ (∀ v h2, Q3 v h2 → G v h2) ∧ (∀ E h2, X3 E h2 → ER cd wa h0 r E h2) := by
  have c := ct_takeNumber (tt := tt) (l := l) (m := m) x.2.2.2.2.2
  rw [x.F] at c
  refine ⟨x.f.1, _, _, c, fun v h2 e => ?_, fun E h2 e => x.er (fun e' he => by rw [hr, bd_er he]) e⟩
  obtain ⟨q, e1, e2, e3⟩ := e
  exact hG v q h2 e1 e3 (by rw [e3]; exact x.mv e2) (by rw [hr, bd_ok e1])
theorem CX.b (x : CX tt h0 cd bb wa wt n h p) {β : Type} {k : Int32 → Nat → Except pe β} {r : Except pe β} (hr : r = bd (tB (am_A h0 (cd (c_tb wt))) n p) k) {G : Int32 → am_H → Prop} (hG : ∀ v h2, p < n → v = am_A h0 (cd (c_tb wt)) p &&& Int32.ofNat 255 → h2 = cp h (cd 31) (p + 1) → CX tt h0 cd bb wa wt n h2 (p + 1) → r = k v (p + 1) → G v h2) :
    am_K h (cd 31) = 3 ∧ ∃ (Q3 : Int32 → am_H → Prop) (X3 : String → am_H → Prop), am_Ct tt 26 [.ref (cd 31)] h (am_pI Q3 X3) ∧ (∀ v h2, Q3 v h2 → G v h2) ∧ (∀ E h2, X3 E h2 → ER cd wa h0 r E h2) := by
  have c := ct_takeByte (tt := tt) x.2.2.2.2.2
  rw [x.F] at c
  refine ⟨x.f.1, _, _, c, fun v h2 e => ?_, fun E h2 e => x.er (fun e' he => by rw [hr, bd_er he]) e⟩
  obtain ⟨q, e1, e2, e3⟩ := e
  obtain ⟨e4, e5, e6⟩ := tB_ok e1
  subst e6
  exact hG v h2 e4 e5 e3 (by rw [e3]; exact x.mv e2) (by rw [hr, bd_ok e1])
theorem CX.l (x : CX tt h0 cd bb wa wt n h p) {β : Type} {m : Nat} (hm : m ≤ 8) {k : Int64 → Nat → Except pe β} {r : Except pe β} (hr : r = bd (tL (am_A h0 (cd (c_tb wt))) n p m) k) {G : Int64 → am_H → Prop} (hG : ∀ v h2, p + m ≤ n → v = lt (am_A h0 (cd (c_tb wt))) p m → h2 = cp h (cd 31) (p + m) → CX tt h0 cd bb wa wt n h2 (p + m) → r = k v (p + m) → G v h2) :
    am_K h (cd 31) = 3 ∧ ∃ (Q3 : Int64 → am_H → Prop) (X3 : String → am_H → Prop), am_Ct tt 28 [.ref (cd 31), .int (Int32.ofNat m)] h (am_pL Q3 X3) ∧ (∀ v h2, Q3 v h2 → G v h2) ∧ (∀ E h2, X3 E h2 → ER cd wa h0 r E h2) := by
  have c := ct_takeLittle (tt := tt) x.2.2.2.2.2 hm
  rw [x.F] at c
  refine ⟨x.f.1, _, _, c, fun v h2 e => ?_, fun E h2 e => x.er (fun e' he => by rw [hr, bd_er he]) e⟩
  obtain ⟨q, e1, e2, e3⟩ := e
  obtain ⟨e4, e5, e6⟩ := tL_ok e1
  subst e6
  exact hG v h2 e4 e5 e3 (by rw [e3]; exact x.mv e2) (by rw [hr, bd_ok e1])
theorem CX.fa (x : CX tt h0 cd bb wa wt n h p) {β : Type} {f pl : Nat} {r : Except pe β} (hr : r = .error (f, pl)) : am_Ct tt 22 [.ref (cd 31), .int (Int32.ofNat f), .int (Int32.ofNat pl)] h (am_pV (fun _ => False) (ER cd wa h0 r)) := by
  refine (ct_cfail' (tt := tt) (f := f) (pl := pl) x.2.2.2.2.2).post (fun o k e => ?_)
  cases o with
  | inl o =>
    cases o with
    | none => exact e
    | some u => exact e
  | inr E => exact x.er (r0 := r) (fun e he => he) ⟨e.1, f, pl, p, hr, e.2⟩
theorem CX.fl (x : CX tt h0 cd bb wa wt n h p) (hp : 1 ≤ p) {β : Type} {r : Except pe β} (hr : r = .error (2, p - 1)) : am_Ct tt 23 [.ref (cd 31)] h (am_pV (fun _ => False) (ER cd wa h0 r)) := by
  refine (ct_failAtLast (tt := tt) x.2.2.2.2.2 hp).post (fun o k e => ?_)
  cases o with
  | inl o =>
    cases o with
    | none => exact e
    | some u => exact e
  | inr E => exact x.er (r0 := r) (fun e he => he) ⟨e.1, 2, p - 1, p, hr, e.2⟩
end RA
