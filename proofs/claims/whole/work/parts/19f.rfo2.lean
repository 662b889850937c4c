/-! deps: 19e -/
/-! ===== the class reads: all folders ===== -/
section RD2
variable {tt : Nat → Nat} {h0 h h' h'' : am_H} {cd : Nat → Nat} {bb : Nat → Nat → Nat} {wa wt n p : Nat}
theorem ER.up {α β : Type} {r0 : Except pe α} {r : Except pe β} {E : String} (q : ER cd wa h0 r0 E h') (hr : ∀ e, r0 = .error e → r = .error e) : ER cd wa h0 r E h' := by
  obtain ⟨q1, f, pl, hh, q2, q3⟩ := q
  exact ⟨q1, f, pl, hh, hr _ q2, q3⟩
theorem ER.bd {α β : Type} {r0 : Except pe (α × Nat)} {k : α → Nat → Except pe β} {r : Except pe β} {E : String} (q : ER cd wa h0 r0 E h') (hr : r = bd r0 k) : ER cd wa h0 r E h' := q.up (fun e he => by rw [hr, bd_er he])
theorem FB.k {X : Nat → Prop} {Y : Nat → Nat → Nat → Prop} (ci : ci_s cd bb) (q : rf cd X Y h h') {b : Nat} {o : FO} (h1 : ¬ X (c_bi (1 - wa) b)) (h2 : ¬ X (c_bd (1 - wa) b)) (h3 : ¬ Y 1 2 (c_bk (1 - wa) b)) (h4 : ¬ Y 1 3 (c_bk (1 - wa) b)) (z : FB cd wa h b o) : FB cd wa h' b o := by
  obtain ⟨z1, z2, z3⟩ := z
  refine ⟨?_, ?_, fun j hj => ?_⟩
  · rw [q.i ci h4]; exact z1
  · rw [q.i ci h3]; exact z2
  · rw [q.a ci h1, q.a ci h2]; exact z3 j hj
/-- a folder's number of coders and its outermost -/
def fV (o : FO) : Prop := 1 ≤ o.1 ∧ o.1 ≤ 3 ∧ o.2.2.2.2 < o.1
theorem fo_in {a1 : Nat} {i : Int32} {β : Type} {r : Except pe β} {Q : am_H → Prop} {nc : Nat} (n3 : nc ≤ 3) {K2 : ((Nat → Int32) × (Nat → Int32)) → Nat → Except pe β} {k0 : am_H} (fin : ∀ k q ks ds, CX tt h0 cd bb wa wt n k q → rf cd Xk Yc k0 k → (∀ j, j < nc → am_A k (cd 51) j = ks j ∧ am_A k (cd 52) j = ds j) → r = K2 (ks, ds) q → am_Ev tt 53 70 [some (.ref (cd 32)), some (.ref a1), some (.int i), some (.int (Int32.ofNat nc)), some (.int (Int32.ofNat nc))] [] k (am_pV Q (ER cd wa h0 r))) :
    ∀ (d c : Nat) (k : am_H) (q : Nat) (ks ds : Nat → Int32), d + c = nc → CX tt h0 cd bb wa wt n k q → rf cd Xk Yc k0 k → (∀ j, j < c → am_A k (cd 51) j = ks j ∧ am_A k (cd 52) j = ds j) → r = bd (lCo (FF cd wt h0) n d c q ks ds) K2 →
      am_Ev tt 53 70 [some (.ref (cd 32)), some (.ref a1), some (.int i), some (.int (Int32.ofNat nc)), some (.int (Int32.ofNat c))] [] k (am_pV Q (ER cd wa h0 r)) := by
  intro d
  induction d with
  | zero =>
    intro c k q ks ds e y fk hk hr
    have : c = nc := by omega
    subst this
    exact fin k q ks ds y fk hk hr
  | succ d ih =>
    intro c k q ks ds e y fk hk hr
    have F := y.f
    rw [lCo, bd_as] at hr
    refine vc_53_70 tt _ _ _ _ _ _ _ _ ?_
    simp (disch := omega) only [F, qi_lt, qi_le, qi_eq, qi_nn, qi_in, qi_add, qi_l, ql_i, ql_lt, ql_le, ql_eq, ql_add, qc_lt, qc_eq, qc_ge, qc_gt, qc_le, true_and, and_true, and_self, true_or, or_true, false_or, or_false, false_and, and_false, not_true_eq_false, not_false_eq_true, Classical.not_not, true_implies, false_implies, implies_true, exists_eq_left, exists_eq_left', Option.some.injEq, reduceIte, Nat.reduceEqDiff, Nat.reduceLT, Nat.reduceLeDiff, Nat.reduceAdd, Nat.reduceSub, Nat.reduceMul, eq_self, ne_eq, and_imp, forall_const, reduceCtorEq, am_w, List.map_cons, List.map_nil, List.sum_cons, List.sum_nil, Value.category, Nat.zero_le, Nat.le_refl]
    refine ⟨fun z => by omega, fun _ => ⟨_, _, ct_takeCoder y (c := c) (by omega) rfl, fun k2 w => ?_, fun E h2 w => w.bd hr⟩⟩
    obtain ⟨kd, p', w1, w2, w3, w4, w5⟩ := w
    rw [bd_ok w1] at hr
    refine ih (c + 1) k2 p' _ _ (by omega) w2 (fk.tr w3) (fun j hj => ?_) hr
    rw [w4, w5]
    unfold va_up
    by_cases c1 : j = c
    · rw [if_pos c1, if_pos c1, if_pos c1, if_pos c1]; exact ⟨rfl, rfl⟩
    · rw [if_neg c1, if_neg c1, if_neg c1, if_neg c1]; exact hk j (by omega)
def XF (wa k : Nat) : Prop := (43 ≤ k ∧ k ≤ 45) ∨ (51 ≤ k ∧ k ≤ 54) ∨ (200 + 500 * (1 - wa) ≤ k ∧ k ≤ 217 + 500 * (1 - wa))
def YF (wa c g k : Nat) : Prop := (c = 2 ∧ g = 2 ∧ k = 31) ∨ (c = 1 ∧ 200 + 500 * (1 - wa) ≤ k ∧ k ≤ 217 + 500 * (1 - wa))
/-- folders so far -/
def FS (cd : Nat → Nat) (wa : Nat) (h : am_H) (i : Nat) (fo : Nat → FO) : Prop := ∀ b, b < i → FB cd wa h b (fo b) ∧ fV (fo b) ∧ am_A h (cd 43) b = Int32.ofNat (fo b).1 ∧ am_A h (cd 44) b = Int32.ofNat (fo b).2.2.2.2
/-- blocks begun -/
def BG (cd : Nat → Nat) (wa : Nat) (h : am_H) (i : Nat) : Prop := ∀ b, i ≤ b → b < 6 → am_I h 1 2 (cd (c_bk (1 - wa) b)) = Int32.ofNat 0 ∧ am_I h 1 3 (cd (c_bk (1 - wa) b)) = Int32.ofNat 1
theorem fo_l {B : Nat} (hB : B ≤ 6) (ci : ci_s cd bb) {β : Type} {r : Except pe β} {Q : am_H → Prop} {KF : (Nat → FO) → Nat → Except pe β} (fin : ∀ k q fo, CX tt h0 cd bb wa wt n k q → rf cd (XF wa) (YF wa) h k → am_I k 5 1 (cd 32) = Int32.ofNat B → FS cd wa k B fo → BG cd wa k B → r = KF fo q → am_Ev tt 53 46 [some (.ref (cd 32)), some (.ref (cd (c_ar (1 - wa)))), some (.int (Int32.ofNat B)), none, none] [] k (am_pV Q (ER cd wa h0 r))) :
    ∀ (d i : Nat) (k : am_H) (q : Nat) (fo : Nat → FO), d + i = B → CX tt h0 cd bb wa wt n k q → rf cd (XF wa) (YF wa) h k → am_I k 5 1 (cd 32) = Int32.ofNat B → FS cd wa k i fo → BG cd wa k i → r = bd (lFo (FF cd wt h0) n d i q fo) KF →
      am_Ev tt 53 46 [some (.ref (cd 32)), some (.ref (cd (c_ar (1 - wa)))), some (.int (Int32.ofNat i)), none, none] [] k (am_pV Q (ER cd wa h0 r)) := by
  intro d
  induction d with
  | zero =>
    intro i k q fo e y fk hI fs bg hr
    have : i = B := by omega
    subst this
    exact fin k q fo y fk hI fs bg hr
  | succ d ih =>
    intro i k q fo e y fk hI fs bg hr
    have F := y.f
    rw [lFo, bd_as, pFo, bd_as] at hr
    refine vc_53_46 tt _ _ _ _ _ _ ?_
    simp (disch := omega) only [F, hI, qi_lt, qi_le, qi_eq, qi_nn, qi_in, qi_add, qi_l, ql_i, ql_lt, ql_le, ql_eq, ql_add, qc_lt, qc_eq, qc_ge, qc_gt, qc_le, true_and, and_true, and_self, true_or, or_true, false_or, or_false, false_and, and_false, not_true_eq_false, not_false_eq_true, Classical.not_not, true_implies, false_implies, implies_true, exists_eq_left, exists_eq_left', Option.some.injEq, reduceIte, Nat.reduceEqDiff, Nat.reduceLT, Nat.reduceLeDiff, Nat.reduceAdd, Nat.reduceSub, Nat.reduceMul, eq_self, ne_eq, and_imp, forall_const, reduceCtorEq, am_w, List.map_cons, List.map_nil, List.sum_cons, List.sum_nil, Value.category, Nat.zero_le, Nat.le_refl]
    refine ⟨fun z => by omega, fun _ => (y.nu hr fun v q2 h2 ev e2 x2 r2 => ?_).2⟩
    obtain ⟨nc, rfl, w1, w2, w3⟩ := tN_n (by omega) (by omega) ev
    rw [w3, bd_as] at r2
    have f2 : rf cd (XF wa) (YF wa) k h2 := by rw [e2]; exact rf.mv (by unfold YF; omega)
    simp (disch := omega) only [qi_lt, qi_le, qi_eq, qi_nn, qi_in, qi_add, qi_l, ql_i, ql_lt, ql_le, ql_eq, ql_add, qc_lt, qc_eq, qc_ge, qc_gt, qc_le]
    refine fo_in (tt := tt) (k0 := h2) w2 (fun k3 q3 ks ds y3 f3 hk r3 => ?_) nc 0 h2 q2 _ _ (by omega) x2 rf.re (fun j hj => absurd hj (Nat.not_lt_zero j)) r2
    have F3 := y3.f
    have f23 : rf cd (XF wa) (YF wa) k k3 := f2.tr (f3.mo (fun k z => by unfold Xk at z; unfold XF; omega) (fun c g k z => Or.inl z))
    refine vc_53_70 tt _ _ _ _ _ _ _ _ ?_
    rw [bd_as] at r3
    simp (disch := omega) only [F3, qi_lt, qi_le, qi_eq, qi_nn, qi_in, qi_add, qi_l, ql_i, ql_lt, ql_le, ql_eq, ql_add, qc_lt, qc_eq, qc_ge, qc_gt, qc_le, true_and, and_true, and_self, true_or, or_true, false_or, or_false, false_and, and_false, not_true_eq_false, not_false_eq_true, Classical.not_not, true_implies, false_implies, implies_true, exists_eq_left, exists_eq_left', Option.some.injEq, reduceIte, Nat.reduceEqDiff, Nat.reduceLT, Nat.reduceLeDiff, Nat.reduceAdd, Nat.reduceSub, Nat.reduceMul, eq_self, ne_eq, and_imp, forall_const, reduceCtorEq, am_w, List.map_cons, List.map_nil, List.sum_cons, List.sum_nil, Value.category, Nat.zero_le, Nat.le_refl]
    refine ⟨_, _, ct_takeBonds y3 w1 w2 rfl, fun k4 w => ?_, fun E h2 w => w.bd r3⟩
    obtain ⟨bs, p4, v1, y4, f4, v4, v5, v6⟩ := w
    rw [bd_ok v1] at r3
    have hi : i < 6 := by omega
    have G4 := y4.bk hi
    have F4 := y4.f
    have f24 : rf cd (XF wa) (YF wa) k k4 := f23.tr (f4.mo (fun k z => by unfold Xb at z; unfold XF; omega) (fun c g k z => Or.inl z))
    have nb : ¬ Xk (c_bi (1 - wa) i) ∧ ¬ Xk 44 := ⟨by unfold Xk c_bi; omega, by unfold Xk; omega⟩
    have ek : ∀ g, am_I k4 1 g (cd (c_bk (1 - wa) i)) = am_I k 1 g (cd (c_bk (1 - wa) i)) := fun g => by
      rw [f4.i ci (by unfold Yc; omega), f3.i ci (by unfold Yc; omega), e2]
      exact (rf.mv (Y := Yc) (X := Xn) ⟨rfl, rfl, rfl⟩).i ci (by unfold Yc; omega)
    simp (disch := omega) only [F4, G4, hi, qi_lt, qi_le, qi_eq, qi_nn, qi_in, qi_add, qi_l, ql_i, ql_lt, ql_le, ql_eq, ql_add, qc_lt, qc_eq, qc_ge, qc_gt, qc_le, true_and, and_true, and_self, true_or, or_true, false_or, or_false, false_and, and_false, not_true_eq_false, not_false_eq_true, Classical.not_not, true_implies, false_implies, implies_true, exists_eq_left, exists_eq_left', Option.some.injEq, reduceIte, Nat.reduceEqDiff, Nat.reduceLT, Nat.reduceLeDiff, Nat.reduceAdd, Nat.reduceSub, Nat.reduceMul, eq_self, ne_eq, and_imp, forall_const, reduceCtorEq, am_w, List.map_cons, List.map_nil, List.sum_cons, List.sum_nil, Value.category, Nat.zero_le, Nat.le_refl]
    refine ⟨_, _, ct_keepFolder y4 hi w1 w2 v4 v5 v6 (ks := ks) (ds := ds) (fun c hc => ?_) ?_ ?_, fun k5 w => ?_, fun _ _ z => z.elim⟩
    · rw [f4.a ci (by unfold Xb; omega), f4.a ci (by unfold Xb; omega)]
      exact hk c hc
    · rw [ek]; exact (bg i (Nat.le_refl i) hi).1
    · rw [ek]; exact (bg i (Nat.le_refl i) hi).2
    · obtain ⟨y5, f5, a3, a4, fb⟩ := w
      have f25 : rf cd (XF wa) (YF wa) k k5 := f24.tr (f5.mo (fun k z => by unfold Xf c_bi c_bd at z; unfold XF; omega) (fun c g k z => by unfold Yf c_bk at z; unfold YF; omega))
      have hfr : ∀ k, ¬ Xk k → ¬ Xb k → am_A k4 (cd k) = am_A h2 (cd k) := fun k z1 z2 => by rw [f4.a ci z2, f3.a ci z1]
      have eh2 : am_A h2 = am_A k := by rw [e2]; rfl
      have e43 : am_A k4 (cd 43) = am_A k (cd 43) := by rw [hfr 43 (by unfold Xk; omega) (by unfold Xb; omega), eh2]
      have e44 : am_A k4 (cd 44) = am_A k (cd 44) := by rw [hfr 44 (by unfold Xk; omega) (by unfold Xb; omega), eh2]
      refine ih (i + 1) k5 p4 _ (by omega) y5 (fk.tr f25) ?_ ?_ ?_ r3
      · rw [f25.i ci (by unfold YF; omega)]; exact hI
      · intro b hb
        unfold va_up
        by_cases c : b = i
        · subst c
          rw [if_pos rfl, a3, a4]
          unfold va_up
          rw [if_pos rfl, if_pos rfl]
          exact ⟨fb, ⟨w1, w2, (ch_v w1 w2 v5 v6 0 (by omega)).1⟩, rfl, rfl⟩
        · rw [if_neg c, a3, a4, e43, e44]
          unfold va_up
          rw [if_neg c, if_neg c]
          obtain ⟨g1, g2, g3, g4⟩ := fs b (by omega)
          refine ⟨?_, g2, g3, g4⟩
          have t2 : FB cd wa h2 b (fo b) := g1.k ci (X := Xn) (Y := Yc) (by rw [e2]; exact rf.mv ⟨rfl, rfl, rfl⟩) (fun z => z) (fun z => z) (by unfold Yc; omega) (by unfold Yc; omega)
          have t3 := t2.k ci f3 (by unfold Xk c_bi; omega) (by unfold Xk c_bd; omega) (by unfold Yc; omega) (by unfold Yc; omega)
          have t4 := t3.k ci f4 (by unfold Xb c_bi; omega) (by unfold Xb c_bd; omega) (by unfold Yc; omega) (by unfold Yc; omega)
          exact t4.k ci f5 (by unfold Xf c_bi c_bd; omega) (by unfold Xf c_bi c_bd; omega) (by unfold Yf c_bk; omega) (by unfold Yf c_bk; omega)
      · intro b hb hb6
        have := bg b (by omega) hb6
        have e : ∀ g, am_I k5 1 g (cd (c_bk (1 - wa) b)) = am_I k 1 g (cd (c_bk (1 - wa) b)) := fun g => by
          rw [f5.i ci (by unfold Yf c_bk; omega), f4.i ci (by unfold Yc; omega), f3.i ci (by unfold Yc; omega), e2]
          exact (rf.mv (Y := Yc) (X := Xn) ⟨rfl, rfl, rfl⟩).i ci (by unfold Yc; omega)
        rw [e, e]
        exact this
theorem gi_l {B : Nat} (hB : B ≤ 6) (ci : ci_s cd bb) {fo : Nat → FO} {pk : Nat → Nat} {β : Type} {r : Except pe β} {Q : am_H → Prop} {k0 : am_H} (fs : FS cd wa k0 B fo) (hI : am_I k0 5 1 (cd 32) = Int32.ofNat B) (hpk : ∀ b, b < B → am_A k0 (cd 42) b = Int32.ofNat (pk b) ∧ pk b ≤ 2400) {KF : (Nat → Nat) → Nat → Except pe β} (fin : ∀ k q g, CX tt h0 cd bb wa wt n k q → rf cd Xg Yc k0 k → (∀ b, b < B → am_A k (cd 45) b = Int32.ofNat (g b)) → r = KF g q → am_Ev tt 53 122 [some (.ref (cd 32)), some (.ref (cd (c_ar (1 - wa)))), some (.int (Int32.ofNat B)), none, none] [] k (am_pV Q (ER cd wa h0 r))) :
    ∀ (d i : Nat) (k : am_H) (q : Nat) (g : Nat → Nat), d + i = B → CX tt h0 cd bb wa wt n k q → rf cd Xg Yc k0 k → (∀ b, b < i → am_A k (cd 45) b = Int32.ofNat (g b)) → r = bd (lGi (FF cd wt h0) n pk fo d i q g) KF →
      am_Ev tt 53 122 [some (.ref (cd 32)), some (.ref (cd (c_ar (1 - wa)))), some (.int (Int32.ofNat i)), none, none] [] k (am_pV Q (ER cd wa h0 r)) := by
  intro d
  induction d with
  | zero =>
    intro i k q g e y fk hg hr
    have : i = B := by omega
    subst this
    exact fin k q g y fk hg hr
  | succ d ih =>
    intro i k q g e y fk hg hr
    have F := y.f
    have hi : i < 6 := by omega
    have G := y.bk hi
    rw [lGi, bd_as] at hr
    have hIk : am_I k 5 1 (cd 32) = Int32.ofNat B := by rw [fk.i ci (by unfold Yc; omega)]; exact hI
    obtain ⟨g1, g2, g3, g4⟩ := fs i (by omega)
    obtain ⟨p1, p2⟩ := hpk i (by omega)
    have ekn : am_I k 1 3 (cd (c_bk (1 - wa) i)) = b01 (fo i).2.1 := by rw [fk.i ci (by unfold Yc; omega)]; exact g1.1
    refine vc_53_122 tt _ _ _ _ _ _ ?_
    simp (disch := omega) only [F, G, hIk, hi, ekn, qi_lt, qi_le, qi_eq, qi_nn, qi_in, qi_add, qi_l, ql_i, ql_lt, ql_le, ql_eq, ql_add, qc_lt, qc_eq, qc_ge, qc_gt, qc_le, true_and, and_true, and_self, true_or, or_true, false_or, or_false, false_and, and_false, not_true_eq_false, not_false_eq_true, Classical.not_not, true_implies, false_implies, implies_true, exists_eq_left, exists_eq_left', Option.some.injEq, reduceIte, Nat.reduceEqDiff, Nat.reduceLT, Nat.reduceLeDiff, Nat.reduceAdd, Nat.reduceSub, Nat.reduceMul, eq_self, ne_eq, and_imp, forall_const, reduceCtorEq, am_w, List.map_cons, List.map_nil, List.sum_cons, List.sum_nil, Value.category, Nat.zero_le, Nat.le_refl]
    refine ⟨fun z => by omega, fun _ => ⟨_, _, ct_takeGivenSizes y hi (kn := (fo i).2.1) (pk := pk i) (nc := (fo i).1) (om := (fo i).2.2.2.2) ?_ (by omega) rfl rfl ?_ g2.2.1 ?_ g2.2.2 rfl, fun k2 w => ?_, fun E h2 w => w.bd hr⟩⟩
    · rw [fk.a ci (by unfold Xg; omega)]; exact p1
    · rw [fk.a ci (by unfold Xg; omega)]; exact g3
    · rw [fk.a ci (by unfold Xg; omega)]; exact g4
    · obtain ⟨v, p', w1, w2, w3, w4⟩ := w
      rw [bd_ok w1] at hr
      refine ih (i + 1) k2 p' _ (by omega) w2 (fk.tr w3) (fun b hb => ?_) hr
      rw [w4]
      unfold va_up
      by_cases c : b = i
      · rw [if_pos c, if_pos c]
      · rw [if_neg c, if_neg c]; exact hg b (by omega)
theorem ct_takeFolders (x : CX tt h0 cd bb wa wt n h p) {B : Nat} (hB : B ≤ 6) (hI : am_I h 5 1 (cd 32) = Int32.ofNat B) {pk : Nat → Nat} (hpk : ∀ b, b < B → am_A h (cd 42) b = Int32.ofNat (pk b) ∧ pk b ≤ 2400) (bg : BG cd wa h 0) {r : Except pe (((Nat → FO) × (Nat → Nat)) × Nat)} (hr : r = pFS (FF cd wt h0) n B pk p) :
    am_Ct tt 53 [.ref (cd 32), .ref (cd (c_ar (1 - wa)))] h (am_pV (fun h' => ∃ fo g p', r = .ok ((fo, g), p') ∧ CX tt h0 cd bb wa wt n h' p' ∧ rf cd (XF wa) (YF wa) h h' ∧ FS cd wa h' B fo ∧ BG cd wa h' B ∧ ∀ b, b < B → am_A h' (cd 45) b = Int32.ofNat (g b)) (ER cd wa h0 r)) := by
  have ci := x.ci
  have f := x.f
  have mvf : ∀ {k : am_H} {q : Nat}, rf cd Xn Yc k (cp k (cd 31) q) := rf.mv ⟨rfl, rfl, rfl⟩
  have up : ∀ {k k' : am_H}, rf cd Xn Yc k k' → rf cd (XF wa) (YF wa) k k' := fun z => z.mo (fun k z => z.elim) (fun c g k z => Or.inl z)
  unfold pFS at hr
  refine vc_53_0 tt _ _ h _ _ ?_
  simp (disch := omega) only [f, qi_lt, qi_le, qi_eq, qi_nn, qi_in, qi_add, qi_l, ql_i, ql_lt, ql_le, ql_eq, ql_add, qc_lt, qc_eq, qc_ge, qc_gt, qc_le, true_and, and_true, and_self, true_or, or_true, false_or, or_false, false_and, and_false, not_true_eq_false, not_false_eq_true, Classical.not_not, true_implies, false_implies, implies_true, exists_eq_left, exists_eq_left', Option.some.injEq, reduceIte, Nat.reduceEqDiff, Nat.reduceLT, Nat.reduceLeDiff, Nat.reduceAdd, Nat.reduceSub, Nat.reduceMul, eq_self, ne_eq, and_imp, forall_const, reduceCtorEq, am_w, List.map_cons, List.map_nil, List.sum_cons, List.sum_nil, Value.category, Nat.zero_le, Nat.le_refl]
  refine (x.x hr fun h2 e2 x2 r2 => ?_).2
  have f2 := x2.f
  simp (disch := omega) only [f2, qi_lt, qi_le, qi_eq, qi_nn, qi_in, qi_add, qi_l, ql_i, ql_lt, ql_le, ql_eq, ql_add, qc_lt, qc_eq, qc_ge, qc_gt, qc_le, true_and, and_true, and_self, true_or, or_true, false_or, or_false, false_and, and_false, not_true_eq_false, not_false_eq_true, Classical.not_not, true_implies, false_implies, implies_true, exists_eq_left, exists_eq_left', Option.some.injEq, reduceIte, Nat.reduceEqDiff, Nat.reduceLT, Nat.reduceLeDiff, Nat.reduceAdd, Nat.reduceSub, Nat.reduceMul, eq_self, ne_eq, and_imp, forall_const, reduceCtorEq, am_w, List.map_cons, List.map_nil, List.sum_cons, List.sum_nil, Value.category, Nat.zero_le, Nat.le_refl]
  refine (x2.x r2 fun h3 e3 x3 r3 => ?_).2
  have f3 := x3.f
  have fr3 : rf cd Xn Yc h h3 := by rw [e3, e2]; exact mvf.tr mvf
  have i3 : am_I h3 5 1 (cd 32) = Int32.ofNat B := by rw [fr3.i ci (by unfold Yc; omega)]; exact hI
  simp (disch := omega) only [f3, i3, qi_lt, qi_le, qi_eq, qi_nn, qi_in, qi_add, qi_l, ql_i, ql_lt, ql_le, ql_eq, ql_add, qc_lt, qc_eq, qc_ge, qc_gt, qc_le, true_and, and_true, and_self, true_or, or_true, false_or, or_false, false_and, and_false, not_true_eq_false, not_false_eq_true, Classical.not_not, true_implies, false_implies, implies_true, exists_eq_left, exists_eq_left', Option.some.injEq, reduceIte, Nat.reduceEqDiff, Nat.reduceLT, Nat.reduceLeDiff, Nat.reduceAdd, Nat.reduceSub, Nat.reduceMul, eq_self, ne_eq, and_imp, forall_const, reduceCtorEq, am_w, List.map_cons, List.map_nil, List.sum_cons, List.sum_nil, Value.category, Nat.zero_le, Nat.le_refl]
  refine (x3.nu r3 fun v q4 h4 ev e4 x4 r4 => ?_).2
  have f4 := x4.f
  simp (disch := omega) only [f4, qi_lt, qi_le, qi_eq, qi_nn, qi_in, qi_add, qi_l, ql_i, ql_lt, ql_le, ql_eq, ql_add, qc_lt, qc_eq, qc_ge, qc_gt, qc_le, true_and, and_true, and_self, true_or, or_true, false_or, or_false, false_and, and_false, not_true_eq_false, not_false_eq_true, Classical.not_not, true_implies, false_implies, implies_true, exists_eq_left, exists_eq_left', Option.some.injEq, reduceIte, Nat.reduceEqDiff, Nat.reduceLT, Nat.reduceLeDiff, Nat.reduceAdd, Nat.reduceSub, Nat.reduceMul, eq_self, ne_eq, and_imp, forall_const, reduceCtorEq, am_w, List.map_cons, List.map_nil, List.sum_cons, List.sum_nil, Value.category, Nat.zero_le, Nat.le_refl]
  refine (x4.x r4 fun h5 e5 x5 r5 => ?_).2
  have fr5 : rf cd Xn Yc h h5 := by rw [e5, e4]; exact fr3.tr (mvf.tr mvf)
  refine fo_l hB ci (fun k q fo y fk hIk fs bgk hr2 => ?_) B 0 h5 (q4 + 1) _ (by omega) x5 (up fr5) ?_ (fun b hb => absurd hb (Nat.not_lt_zero b)) ?_ r5
  · have F := y.f
    refine vc_53_46 tt _ _ _ _ _ _ ?_
    simp (disch := omega) only [F, hIk, qi_lt, qi_le, qi_eq, qi_nn, qi_in, qi_add, qi_l, ql_i, ql_lt, ql_le, ql_eq, ql_add, qc_lt, qc_eq, qc_ge, qc_gt, qc_le, true_and, and_true, and_self, true_or, or_true, false_or, or_false, false_and, and_false, not_true_eq_false, not_false_eq_true, Classical.not_not, true_implies, false_implies, implies_true, exists_eq_left, exists_eq_left', Option.some.injEq, reduceIte, Nat.reduceEqDiff, Nat.reduceLT, Nat.reduceLeDiff, Nat.reduceAdd, Nat.reduceSub, Nat.reduceMul, eq_self, ne_eq, and_imp, forall_const, reduceCtorEq, am_w, List.map_cons, List.map_nil, List.sum_cons, List.sum_nil, Value.category, Nat.zero_le, Nat.le_refl]
    refine (y.x hr2 fun h6 e6 x6 r6 => ?_).2
    have fr6 : rf cd Xn Yc k h6 := by rw [e6]; exact mvf
    have fs6 : FS cd wa h6 B fo := fun b hb => by
      obtain ⟨g1, g2, g3, g4⟩ := fs b hb
      refine ⟨g1.k ci fr6 (fun z => z) (fun z => z) (by unfold Yc; omega) (by unfold Yc; omega), g2, ?_, ?_⟩
      · rw [fr6.a ci (fun z => z)]; exact g3
      · rw [fr6.a ci (fun z => z)]; exact g4
    refine gi_l hB ci fs6 (by rw [fr6.i ci (by unfold Yc; omega)]; exact hIk) (pk := pk) (fun b hb => ?_) (fun k7 q7 g y7 f7 hg hr7 => ?_) B 0 h6 (q + 1) _ (by omega) x6 rf.re (fun b hb => absurd hb (Nat.not_lt_zero b)) r6
    · rw [fr6.a ci (fun z => z), fk.a ci (by unfold XF; omega)]; exact hpk b hb
    · have F7 := y7.f
      have i7 : am_I k7 5 1 (cd 32) = Int32.ofNat B := by rw [f7.i ci (by unfold Yc; omega), fr6.i ci (by unfold Yc; omega)]; exact hIk
      refine vc_53_122 tt _ _ _ _ _ _ ?_
      simp (disch := omega) only [F7, i7, qi_lt, qi_le, qi_eq, qi_nn, qi_in, qi_add, qi_l, ql_i, ql_lt, ql_le, ql_eq, ql_add, qc_lt, qc_eq, qc_ge, qc_gt, qc_le, true_and, and_true, and_self, true_or, or_true, false_or, or_false, false_and, and_false, not_true_eq_false, not_false_eq_true, Classical.not_not, true_implies, false_implies, implies_true, exists_eq_left, exists_eq_left', Option.some.injEq, reduceIte, Nat.reduceEqDiff, Nat.reduceLT, Nat.reduceLeDiff, Nat.reduceAdd, Nat.reduceSub, Nat.reduceMul, eq_self, ne_eq, and_imp, forall_const, reduceCtorEq, am_w, List.map_cons, List.map_nil, List.sum_cons, List.sum_nil, Value.category, Nat.zero_le, Nat.le_refl]
      refine (y7.x hr7 fun h8 e8 x8 r8 => ?_).2
      have fr8 : rf cd Xn Yc k7 h8 := by rw [e8]; exact mvf
      have fr68 : rf cd Xg Yc h6 h8 := f7.tr (fr8.mo (fun k z => z.elim) (fun c g k z => z))
      refine ⟨fo, g, q7 + 1, r8, x8, fk.tr ((up fr6).tr (fr68.mo (fun k z => by unfold Xg at z; unfold XF; omega) (fun c g k z => Or.inl z))), fun b hb => ?_, fun b hb hb6 => ?_, fun b hb => ?_⟩
      · obtain ⟨g1, g2, g3, g4⟩ := fs6 b hb
        refine ⟨g1.k ci fr68 (by unfold Xg c_bi; omega) (by unfold Xg c_bd; omega) (by unfold Yc; omega) (by unfold Yc; omega), g2, ?_, ?_⟩
        · rw [fr68.a ci (by unfold Xg; omega)]; exact g3
        · rw [fr68.a ci (by unfold Xg; omega)]; exact g4
      · rw [fr68.i ci (by unfold Yc; omega), fr68.i ci (by unfold Yc; omega), fr6.i ci (by unfold Yc; omega), fr6.i ci (by unfold Yc; omega)]
        exact bgk b hb hb6
      · rw [fr8.a ci (fun z => z)]; exact hg b hb
  · rw [fr5.i ci (by unfold Yc; omega)]; exact hI
  · intro b hb hb6
    rw [fr5.i ci (by unfold Yc; omega), fr5.i ci (by unfold Yc; omega)]
    exact bg b hb hb6
end RD2
