/-! deps: 19w -/
/-! ===== the reference reads: what it stands on, its steps ===== -/
/-! 176 yX10_isFine -/
theorem vc_176_0 (tt : Nat → Nat) (a0 : Nat) (h : am_H) (Q : Int32 → am_H → Prop) (Qx : String → am_H → Prop) (q :
  (am_K h a0 = 11 ∧
  ((¬ (am_I h 10 20 a0) = (Int32.ofNat 0) →
   (((Int32.ofNat 0) = (Int32.ofNat 0) ∨ (Int32.ofNat 0) = (Int32.ofNat 1)) ∧ Q (Int32.ofNat 0) h)) ∧
  (¬ (¬ (am_I h 10 20 a0) = (Int32.ofNat 0)) →
   (((Int32.ofNat 1) = (Int32.ofNat 0) ∨ (Int32.ofNat 1) = (Int32.ofNat 1)) ∧ Q (Int32.ofNat 1) h))))) :
  am_Ev tt 176 0 [some (.ref a0)] [] h (am_pI Q Qx) := am_vc 8 [] q

/-! 177 yX10_fails -/
theorem vc_177_0 (tt : Nat → Nat) (a0 : Nat) (a1 : Int32) (a2 : Int32) (h : am_H) (Q : am_H → Prop) (Qx : String → am_H → Prop) (q :
  (am_K h a0 = 11 ∧
  ((¬ (am_I h 10 20 a0) = (Int32.ofNat 0) →
   Q h) ∧
  (¬ (¬ (am_I h 10 20 a0) = (Int32.ofNat 0)) →
   (am_K h a0 = 11 ∧
   (am_K h a0 = 11 ∧
   Q (am_sI (am_sI h 10 20 a0 a1) 10 28 a0 a2))))))) :
  am_Ev tt 177 0 [some (.ref a0), some (.int a1), some (.int a2)] [] h (am_pV Q Qx) := am_vc 12 [] q

/-! 178 yX10_next -/
theorem vc_178_0 (tt : Nat → Nat) (a0 : Nat) (h : am_H) (Q : Int32 → am_H → Prop) (Qx : String → am_H → Prop) (q :
  (am_K h a0 = 11 ∧ ∃ (Q2 : Int32 → am_H → Prop) (X2 : String → am_H → Prop), am_Ct tt 176 [.ref a0] h (am_pI Q2 X2) ∧ (∀ x3 h1, Q2 x3 h1 →
   ((¬ x3 = (Int32.ofNat 0) →
    (am_K h1 a0 = 11 ∧
    (am_K h1 a0 = 11 ∧
    (((am_I h1 10 27 a0) < (am_I h1 10 19 a0) →
     (am_K h1 a0 = 11 ∧ ∃ q4, am_R h1 10 18 a0 = some q4 ∧
     (am_K h1 a0 = 11 ∧
     ((am_K h1 q4 = 23 ∨ am_K h1 q4 = 24) ∧ vp_in (am_I h1 10 27 a0) (am_N h1 q4) ∧
     Q ((am_A h1 q4 ((am_I h1 10 27 a0)).toNatClampNeg) &&& (Int32.ofNat 255)) h1)))) ∧
    (¬ ((am_I h1 10 27 a0) < (am_I h1 10 19 a0)) →
     (am_K h1 a0 = 11 ∧
     (am_K h1 a0 = 11 ∧ ∃ (Q6 : am_H → Prop) (X6 : String → am_H → Prop), am_Ct tt 177 [.ref a0, .int (Int32.ofNat 1), .int (am_I h1 10 19 a0)] h1 (am_pV Q6 X6) ∧ (∀ h5, Q6 h5 →
      Q (-1 : Int32) h5) ∧ (∀ E7 h5, X6 E7 h5 → Qx E7 h5)))))))) ∧
   (¬ (¬ x3 = (Int32.ofNat 0)) →
    Q (-1 : Int32) h1))) ∧ (∀ E8 h1, X2 E8 h1 → Qx E8 h1))) :
  am_Ev tt 178 0 [some (.ref a0)] [] h (am_pI Q Qx) := am_vc 18 [] q

/-! 179 yX10_take -/
theorem vc_179_0 (tt : Nat → Nat) (a0 : Nat) (h : am_H) (Q : Int32 → am_H → Prop) (Qx : String → am_H → Prop) (q :
  (am_K h a0 = 11 ∧ ∃ (Q2 : Int32 → am_H → Prop) (X2 : String → am_H → Prop), am_Ct tt 178 [.ref a0] h (am_pI Q2 X2) ∧ (∀ x3 h1, Q2 x3 h1 →
   (am_K h1 a0 = 11 ∧
   ((¬ x3 = (-1 : Int32) →
    (am_K h1 a0 = 11 ∧
    Q x3 (am_sI h1 10 27 a0 ((am_I h1 10 27 a0) + (Int32.ofNat 1))))) ∧
   (¬ (¬ x3 = (-1 : Int32)) →
    (am_K h1 a0 = 11 ∧
    Q x3 (am_sI h1 10 27 a0 ((am_I h1 10 27 a0) + (Int32.ofNat 0)))))))) ∧ (∀ E4 h1, X2 E4 h1 → Qx E4 h1))) :
  am_Ev tt 179 0 [some (.ref a0), none] [] h (am_pI Q Qx) := am_vc 17 [] q

/-! 180 yX10_need -/
theorem vc_180_0 (tt : Nat → Nat) (a0 : Nat) (a1 : Int32) (h : am_H) (Q : am_H → Prop) (Qx : String → am_H → Prop) (q :
  (am_K h a0 = 11 ∧ ∃ (Q2 : Int32 → am_H → Prop) (X2 : String → am_H → Prop), am_Ct tt 178 [.ref a0] h (am_pI Q2 X2) ∧ (∀ x3 h1, Q2 x3 h1 →
   (am_K h1 a0 = 11 ∧ ∃ (Q5 : Int32 → am_H → Prop) (X5 : String → am_H → Prop), am_Ct tt 176 [.ref a0] h1 (am_pI Q5 X5) ∧ (∀ x6 h4, Q5 x6 h4 →
    ((x6 = (Int32.ofNat 0) →
     am_Ev tt 180 26 [some (.ref a0), none, none] [] h4 (am_pV Q Qx)) ∧
    (¬ (x6 = (Int32.ofNat 0)) →
     ((x3 = a1 →
      am_Ev tt 180 26 [some (.ref a0), none, none] [] h4 (am_pV Q Qx)) ∧
     (¬ (x3 = a1) →
      (am_K h4 a0 = 11 ∧
      (am_K h4 a0 = 11 ∧ ∃ (Q8 : am_H → Prop) (X8 : String → am_H → Prop), am_Ct tt 177 [.ref a0, .int (Int32.ofNat 2), .int (am_I h4 10 27 a0)] h4 (am_pV Q8 X8) ∧ (∀ h7, Q8 h7 →
       am_Ev tt 180 26 [some (.ref a0), none, none] [] h7 (am_pV Q Qx)) ∧ (∀ E9 h7, X8 E9 h7 → Qx E9 h7)))))))) ∧ (∀ E10 h4, X5 E10 h4 → Qx E10 h4))) ∧ (∀ E11 h1, X2 E11 h1 → Qx E11 h1))) :
  am_Ev tt 180 0 [some (.ref a0), some (.int a1), none] [] h (am_pV Q Qx) := am_vc 17 [(26, [true, false, false])] q
theorem vc_180_26 (tt : Nat → Nat) (a0 : Nat) (h : am_H) (Q : am_H → Prop) (Qx : String → am_H → Prop) (q :
  (am_K h a0 = 11 ∧
  (am_K h a0 = 11 ∧
  Q (am_sI h 10 27 a0 ((am_I h 10 27 a0) + (Int32.ofNat 1)))))) :
  am_Ev tt 180 26 [some (.ref a0), none, none] [] h (am_pV Q Qx) := am_vc 9 [(26, [true, false, false])] q

/-- fine at p, or a FAULT -/
abbrev Ms : Type := Except pe Nat
def mS (h : am_H) (m : Nat) : Ms → Prop
  | .ok p => am_I h 10 20 m = Int32.ofNat 0 ∧ am_I h 10 27 m = Int32.ofNat p
  | .error (f, pl) => 1 ≤ f ∧ f ≤ 8 ∧ am_I h 10 20 m = Int32.ofNat f ∧ am_I h 10 28 m = Int32.ofNat pl
def MY (F : Fn) (n : Nat) (h : am_H) (m : Nat) (ad : Nat → Nat) (s : Ms) : Prop := md_s h m ad ∧ am_I h 10 19 m = Int32.ofNat n ∧ n ≤ 5000 ∧ (∀ j, j < n → am_A h (ad 18) j = F j) ∧ mS h m s ∧ ∀ p, s = .ok p → p ≤ n
/-- rows X, fields Y may change -/
def mg (m : Nat) (ad : Nat → Nat) (X Y : Nat → Prop) (h h' : am_H) : Prop := mfr h m ad h' ∧ (∀ k, ¬ X k → am_A h' (ad k) = am_A h (ad k) ∧ am_B h' (ad k) = am_B h (ad k)) ∧ (∀ f, ¬ Y f → am_I h' 10 f m = am_I h 10 f m ∧ am_J h' 10 f m = am_J h 10 f m)
def isOk {α : Type} : Except pe α → Bool
  | .ok _ => true
  | .error _ => false
/-- on, where it is fine -/
def bs {α : Type} (s : Ms) (k : Nat → Except pe α) : Except pe α := match s with
  | .ok p => k p
  | .error e => .error e
/-- where it stands then -/
def st {α : Type} (r : Except pe (α × Nat)) : Ms := match r with
  | .ok (_, p) => .ok p
  | .error e => .error e
def er (s : Ms) (f pl : Nat) : Ms := match s with
  | .ok _ => .error (f, pl)
  | .error e => .error e
section MA
variable {tt : Nat → Nat} {F : Fn} {n m : Nat} {ad : Nat → Nat} {h h' h'' k k' : am_H} {s : Ms} {X Y X' Y' : Nat → Prop}
theorem mg.re : mg m ad X Y h h := ⟨mfr.rf, fun _ _ => ⟨rfl, rfl⟩, fun _ _ => ⟨rfl, rfl⟩⟩
theorem mg.tr (p : mg m ad X Y h h') (q : mg m ad X Y h' h'') : mg m ad X Y h h'' := ⟨p.1.tr q.1, fun k z => ⟨(q.2.1 k z).1.trans (p.2.1 k z).1, (q.2.1 k z).2.trans (p.2.1 k z).2⟩, fun f z => ⟨(q.2.2 f z).1.trans (p.2.2 f z).1, (q.2.2 f z).2.trans (p.2.2 f z).2⟩⟩
theorem mg.mo (p : mg m ad X Y h h') (hX : ∀ k, X k → X' k) (hY : ∀ k, Y k → Y' k) : mg m ad X' Y' h h' := ⟨p.1, fun k z => p.2.1 k (fun w => z (hX k w)), fun f z => p.2.2 f (fun w => z (hY f w))⟩
theorem mg.sI {f : Nat} {v : Int32} (hf : Y f) : mg m ad X Y h (am_sI h 10 f m v) := ⟨mfr.sI, fun _ _ => ⟨rfl, rfl⟩, fun g z => ⟨by simp only [am_hs]; rw [if_neg (fun w => z (by rw [w.2.1]; exact hf))], rfl⟩⟩
theorem mg.sA (sm : md_s h m ad) {k i : Nat} {v : Int32} (hk : X k) : mg m ad X Y h (am_sA h (ad k) i v) := ⟨mfr.sA, fun j z => ⟨by funext l; simp only [am_hs]; rw [if_neg (fun w => z (by rw [sm.2.2 _ _ w.1]; exact hk))], rfl⟩, fun _ _ => ⟨rfl, rfl⟩⟩
theorem mg.sB (sm : md_s h m ad) {k i : Nat} {v : Int64} (hk : X k) : mg m ad X Y h (am_sB h (ad k) i v) := ⟨mfr.sB, fun j z => ⟨rfl, by funext l; simp only [am_hs]; rw [if_neg (fun w => z (by rw [sm.2.2 _ _ w.1]; exact hk))]⟩, fun _ _ => ⟨rfl, rfl⟩⟩
/-- on, where only other cells change -/
theorem MY.on (y : MY F n h m ad s) (q : mg m ad X Y h h') (h18 : ¬ X 18) (h19 : ¬ Y 19) (h20 : ¬ Y 20) (h27 : ¬ Y 27) (h28 : ¬ Y 28) : MY F n h' m ad s := by
  obtain ⟨y1, y2, y3, y4, y5, y6⟩ := y
  refine ⟨q.1.md y1, by rw [(q.2.2 19 h19).1]; exact y2, y3, fun j hj => by rw [(q.2.1 18 h18).1]; exact y4 j hj, ?_, y6⟩
  cases s with
  | ok p => exact ⟨by rw [(q.2.2 20 h20).1]; exact y5.1, by rw [(q.2.2 27 h27).1]; exact y5.2⟩
  | error e => exact ⟨y5.1, y5.2.1, by rw [(q.2.2 20 h20).1]; exact y5.2.2.1, by rw [(q.2.2 28 h28).1]; exact y5.2.2.2⟩
/-- its own fields -/
abbrev Yq (f : Nat) : Prop := f = 20 ∨ f = 27 ∨ f = 28
/-- to another standing -/
theorem MY.to (y : MY F n h m ad s) (q : mg m ad Xn Yq h h') {s' : Ms} (hs : mS h' m s') (hp : ∀ p, s' = .ok p → p ≤ n) : MY F n h' m ad s' := by
  obtain ⟨y1, y2, y3, y4, y5, y6⟩ := y
  exact ⟨q.1.md y1, by rw [(q.2.2 19 (by omega)).1]; exact y2, y3, fun j hj => by rw [(q.2.1 18 (fun z => z)).1]; exact y4 j hj, hs, hp⟩
theorem ct_mfine (y : MY F n h m ad s) : am_Ct tt 176 [.ref m] h (am_pI (fun v k => k = h ∧ v = b01 (isOk s)) no_x) := by
  have k1 := y.1.1
  have y5 := y.2.2.2.2.1
  refine vc_176_0 tt _ h _ _ ?_
  cases s with
  | ok p =>
    have e := y5.1
    simp (disch := omega) only [k1, e, qi_lt, qi_le, qi_eq, qi_nn, qi_in, qi_add, qi_l, ql_i, ql_lt, ql_le, ql_eq, ql_add, qc_lt, qc_eq, qc_ge, qc_gt, qc_le, true_and, and_true, and_self, true_or, or_true, false_or, or_false, false_and, and_false, not_true_eq_false, not_false_eq_true, Classical.not_not, true_implies, false_implies, implies_true, exists_eq_left, exists_eq_left', Option.some.injEq, reduceIte, Nat.reduceEqDiff, Nat.reduceLT, Nat.reduceLeDiff, Nat.reduceAdd, Nat.reduceSub, Nat.reduceMul, eq_self, ne_eq, and_imp, forall_const, reduceCtorEq, am_w, List.map_cons, List.map_nil, List.sum_cons, List.sum_nil, Value.category, Nat.zero_le, Nat.le_refl]
    rfl
  | error e =>
    have e1 := y5.2.2.1
    have h1 := y5.1
    have h2 := y5.2.1
    simp (disch := omega) only [k1, e1, qi_lt, qi_le, qi_eq, qi_nn, qi_in, qi_add, qi_l, ql_i, ql_lt, ql_le, ql_eq, ql_add, qc_lt, qc_eq, qc_ge, qc_gt, qc_le, true_and, and_true, and_self, true_or, or_true, false_or, or_false, false_and, and_false, not_true_eq_false, not_false_eq_true, Classical.not_not, true_implies, false_implies, implies_true, exists_eq_left, exists_eq_left', Option.some.injEq, reduceIte, Nat.reduceEqDiff, Nat.reduceLT, Nat.reduceLeDiff, Nat.reduceAdd, Nat.reduceSub, Nat.reduceMul, eq_self, ne_eq, and_imp, forall_const, reduceCtorEq, am_w, List.map_cons, List.map_nil, List.sum_cons, List.sum_nil, Value.category, Nat.zero_le, Nat.le_refl]
    exact ⟨fun _ => rfl, fun z => by omega⟩
theorem ct_mfails (y : MY F n h m ad s) {f pl : Nat} (h1 : 1 ≤ f) (h8 : f ≤ 8) : am_Ct tt 177 [.ref m, .int (Int32.ofNat f), .int (Int32.ofNat pl)] h (am_pV (fun k => MY F n k m ad (er s f pl) ∧ mg m ad Xn Yq h k) no_x) := by
  have k1 := y.1.1
  have y5 := y.2.2.2.2.1
  refine vc_177_0 tt _ _ _ h _ _ ?_
  cases s with
  | ok p =>
    have e := y5.1
    simp (disch := omega) only [k1, e, qi_lt, qi_le, qi_eq, qi_nn, qi_in, qi_add, qi_l, ql_i, ql_lt, ql_le, ql_eq, ql_add, qc_lt, qc_eq, qc_ge, qc_gt, qc_le, true_and, and_true, and_self, true_or, or_true, false_or, or_false, false_and, and_false, not_true_eq_false, not_false_eq_true, Classical.not_not, true_implies, false_implies, implies_true, exists_eq_left, exists_eq_left', Option.some.injEq, reduceIte, Nat.reduceEqDiff, Nat.reduceLT, Nat.reduceLeDiff, Nat.reduceAdd, Nat.reduceSub, Nat.reduceMul, eq_self, ne_eq, and_imp, forall_const, reduceCtorEq, am_w, List.map_cons, List.map_nil, List.sum_cons, List.sum_nil, Value.category, Nat.zero_le, Nat.le_refl]
    have g : mg m ad Xn Yq h (am_sI (am_sI h 10 20 m (Int32.ofNat f)) 10 28 m (Int32.ofNat pl)) := (mg.sI (by omega)).tr (mg.sI (by omega))
    exact ⟨y.to g ⟨h1, h8, by simp only [am_hs, true_and, and_true, and_self, true_or, or_true, false_or, or_false, false_and, and_false, not_true_eq_false, not_false_eq_true, Classical.not_not, true_implies, false_implies, implies_true, exists_eq_left, exists_eq_left', Option.some.injEq, reduceIte, Nat.reduceEqDiff, Nat.reduceLT, Nat.reduceLeDiff, Nat.reduceAdd, Nat.reduceSub, Nat.reduceMul, eq_self, ne_eq, and_imp, forall_const, reduceCtorEq, am_w, List.map_cons, List.map_nil, List.sum_cons, List.sum_nil, Value.category, Nat.zero_le, Nat.le_refl], by simp only [am_hs, true_and, and_true, and_self, true_or, or_true, false_or, or_false, false_and, and_false, not_true_eq_false, not_false_eq_true, Classical.not_not, true_implies, false_implies, implies_true, exists_eq_left, exists_eq_left', Option.some.injEq, reduceIte, Nat.reduceEqDiff, Nat.reduceLT, Nat.reduceLeDiff, Nat.reduceAdd, Nat.reduceSub, Nat.reduceMul, eq_self, ne_eq, and_imp, forall_const, reduceCtorEq, am_w, List.map_cons, List.map_nil, List.sum_cons, List.sum_nil, Value.category, Nat.zero_le, Nat.le_refl]⟩ (fun p z => by cases z), g⟩
  | error e =>
    have e1 := y5.2.2.1
    have g1 := y5.1
    have g2 := y5.2.1
    simp (disch := omega) only [k1, e1, qi_lt, qi_le, qi_eq, qi_nn, qi_in, qi_add, qi_l, ql_i, ql_lt, ql_le, ql_eq, ql_add, qc_lt, qc_eq, qc_ge, qc_gt, qc_le, true_and, and_true, and_self, true_or, or_true, false_or, or_false, false_and, and_false, not_true_eq_false, not_false_eq_true, Classical.not_not, true_implies, false_implies, implies_true, exists_eq_left, exists_eq_left', Option.some.injEq, reduceIte, Nat.reduceEqDiff, Nat.reduceLT, Nat.reduceLeDiff, Nat.reduceAdd, Nat.reduceSub, Nat.reduceMul, eq_self, ne_eq, and_imp, forall_const, reduceCtorEq, am_w, List.map_cons, List.map_nil, List.sum_cons, List.sum_nil, Value.category, Nat.zero_le, Nat.le_refl]
    exact ⟨fun _ => ⟨y, mg.re⟩, fun z => by omega⟩
theorem ct_mnext (y : MY F n h m ad s) : am_Ct tt 178 [.ref m] h (am_pI (fun v k => MY F n k m ad (bs s fun p => if p < n then .ok p else .error (1, n)) ∧ mg m ad Xn Yq h k ∧ v = (match s with | .ok p => if p < n then F p &&& Int32.ofNat 255 else -1 | .error _ => -1) ∧ ((∃ p, s = .ok p ∧ p < n) → k = h)) no_x) := by
  have k1 := y.1.1
  have y5 := y.2.2.2.2.1
  have n5 := y.2.2.1
  obtain ⟨r1, r2, r3⟩ := md_r y.1 (k := 18) (by decide) rfl (by decide)
  refine vc_178_0 tt _ h _ _ ?_
  refine ⟨k1, _, _, ct_mfine y, fun v k e => ?_, fun _ _ z => z.elim⟩
  obtain ⟨rfl, rfl⟩ := e
  cases s with
  | ok p =>
    have e27 := y5.2
    have e19 := y.2.1
    have pn := y.2.2.2.2.2 p rfl
    have e1 : b01 (isOk (Except.ok p : Ms)) = Int32.ofNat 1 := rfl
    rw [e1]
    simp (disch := omega) only [k1, e27, e19, r1, r2, r3, qi_lt, qi_le, qi_eq, qi_nn, qi_in, qi_add, qi_l, ql_i, ql_lt, ql_le, ql_eq, ql_add, qc_lt, qc_eq, qc_ge, qc_gt, qc_le, true_and, and_true, and_self, true_or, or_true, false_or, or_false, false_and, and_false, not_true_eq_false, not_false_eq_true, Classical.not_not, true_implies, false_implies, implies_true, exists_eq_left, exists_eq_left', Option.some.injEq, reduceIte, Nat.reduceEqDiff, Nat.reduceLT, Nat.reduceLeDiff, Nat.reduceAdd, Nat.reduceSub, Nat.reduceMul, eq_self, ne_eq, and_imp, forall_const, reduceCtorEq, am_w, List.map_cons, List.map_nil, List.sum_cons, List.sum_nil, Value.category, Nat.zero_le, Nat.le_refl]
    refine ⟨fun c => ?_, fun c => ?_⟩
    · refine ⟨by omega, ?_⟩
      rw [y.2.2.2.1 p c]
      have eb : (bs (Except.ok p : Ms) fun p => if p < n then .ok p else .error (1, n)) = .ok p := by show (if p < n then _ else _) = _; rw [if_pos c]
      rw [eb]
      exact ⟨y, mg.re, by rw [if_pos c]⟩
    · refine ⟨_, _, ct_mfails y (f := 1) (pl := n) (by omega) (by omega), fun k2 w => ?_, fun _ _ z => z.elim⟩
      have eb : (bs (Except.ok p : Ms) fun p => if p < n then .ok p else .error (1, n)) = .error (1, n) := by show (if p < n then _ else _) = _; rw [if_neg c]
      rw [eb]
      exact ⟨w.1, w.2, by rw [if_neg c], fun ⟨q, z1, z2⟩ => by cases z1; exact absurd z2 c⟩
  | error e =>
    have e1 : b01 (isOk (Except.error e : Ms)) = Int32.ofNat 0 := rfl
    rw [e1]
    simp (disch := omega) only [qi_lt, qi_le, qi_eq, qi_nn, qi_in, qi_add, qi_l, ql_i, ql_lt, ql_le, ql_eq, ql_add, qc_lt, qc_eq, qc_ge, qc_gt, qc_le, true_and, and_true, and_self, true_or, or_true, false_or, or_false, false_and, and_false, not_true_eq_false, not_false_eq_true, Classical.not_not, true_implies, false_implies, implies_true, exists_eq_left, exists_eq_left', Option.some.injEq, reduceIte, Nat.reduceEqDiff, Nat.reduceLT, Nat.reduceLeDiff, Nat.reduceAdd, Nat.reduceSub, Nat.reduceMul, eq_self, ne_eq, and_imp, forall_const, reduceCtorEq, am_w, List.map_cons, List.map_nil, List.sum_cons, List.sum_nil, Value.category, Nat.zero_le, Nat.le_refl]
    exact ⟨y, mg.re⟩
theorem ct_mtake (y : MY F n h m ad s) {r : Except pe (Int32 × Nat)} (hr : r = bs s (tB F n)) : am_Ct tt 179 [.ref m] h (am_pI (fun v k => MY F n k m ad (st r) ∧ mg m ad Xn Yq h k ∧ ∀ a p', r = .ok (a, p') → v = a) no_x) := by
  have k1 := y.1.1
  have n5 := y.2.2.1
  refine vc_179_0 tt _ h _ _ ⟨k1, _, _, ct_mnext y, fun v k e => ?_, fun _ _ z => z.elim⟩
  obtain ⟨y2, g, ev, eh⟩ := e
  have k2 := y2.1.1
  cases s with
  | ok p =>
    have pn := y.2.2.2.2.2 p rfl
    by_cases c : p < n
    · have := eh ⟨p, rfl, c⟩
      subst this
      have ev : v = F p &&& Int32.ofNat 255 := by rw [ev]; show (if p < n then _ else _) = _; rw [if_pos c]
      have er : r = .ok (F p &&& Int32.ofNat 255, p + 1) := by rw [hr]; show tB F n p = _; rw [tB, if_pos c]
      obtain ⟨b, hb, eb⟩ := a255 (F p)
      have e27 := y.2.2.2.2.1.2
      have e20 := y.2.2.2.2.1.1
      have ne : ¬ v = -1 := by rw [ev, eb, qi_m1 (by omega)]; exact id
      simp (disch := omega) only [k1, ne, e27, qi_lt, qi_le, qi_eq, qi_nn, qi_in, qi_add, qi_l, ql_i, ql_lt, ql_le, ql_eq, ql_add, qc_lt, qc_eq, qc_ge, qc_gt, qc_le, true_and, and_true, and_self, true_or, or_true, false_or, or_false, false_and, and_false, not_true_eq_false, not_false_eq_true, Classical.not_not, true_implies, false_implies, implies_true, exists_eq_left, exists_eq_left', Option.some.injEq, reduceIte, Nat.reduceEqDiff, Nat.reduceLT, Nat.reduceLeDiff, Nat.reduceAdd, Nat.reduceSub, Nat.reduceMul, eq_self, ne_eq, and_imp, forall_const, reduceCtorEq, am_w, List.map_cons, List.map_nil, List.sum_cons, List.sum_nil, Value.category, Nat.zero_le, Nat.le_refl]
      rw [er]
      have g2 : mg m ad Xn Yq k (am_sI k 10 27 m (Int32.ofNat (p + 1))) := mg.sI (by omega)
      exact ⟨y.to g2 ⟨by simp only [am_hs, true_and, and_true, and_self, true_or, or_true, false_or, or_false, false_and, and_false, not_true_eq_false, not_false_eq_true, Classical.not_not, true_implies, false_implies, implies_true, exists_eq_left, exists_eq_left', Option.some.injEq, reduceIte, Nat.reduceEqDiff, Nat.reduceLT, Nat.reduceLeDiff, Nat.reduceAdd, Nat.reduceSub, Nat.reduceMul, eq_self, ne_eq, and_imp, forall_const, reduceCtorEq, am_w, List.map_cons, List.map_nil, List.sum_cons, List.sum_nil, Value.category, Nat.zero_le, Nat.le_refl]; exact e20, by simp only [am_hs, true_and, and_true, and_self, true_or, or_true, false_or, or_false, false_and, and_false, not_true_eq_false, not_false_eq_true, Classical.not_not, true_implies, false_implies, implies_true, exists_eq_left, exists_eq_left', Option.some.injEq, reduceIte, Nat.reduceEqDiff, Nat.reduceLT, Nat.reduceLeDiff, Nat.reduceAdd, Nat.reduceSub, Nat.reduceMul, eq_self, ne_eq, and_imp, forall_const, reduceCtorEq, am_w, List.map_cons, List.map_nil, List.sum_cons, List.sum_nil, Value.category, Nat.zero_le, Nat.le_refl]⟩ (fun q z => by cases z; omega), g2, fun a p' z => by cases z; exact ev⟩
    · have ev : v = -1 := by rw [ev]; show (if p < n then _ else _) = _; rw [if_neg c]
      have er : r = .error (1, n) := by rw [hr]; show tB F n p = _; rw [tB, if_neg c]
      have eb : (bs (Except.ok p : Ms) fun p => if p < n then .ok p else .error (1, n)) = .error (1, n) := by show (if p < n then _ else _) = _; rw [if_neg c]
      rw [eb] at y2
      simp (disch := omega) only [k2, ev, qi_lt, qi_le, qi_eq, qi_nn, qi_in, qi_add, qi_l, ql_i, ql_lt, ql_le, ql_eq, ql_add, qc_lt, qc_eq, qc_ge, qc_gt, qc_le, true_and, and_true, and_self, true_or, or_true, false_or, or_false, false_and, and_false, not_true_eq_false, not_false_eq_true, Classical.not_not, true_implies, false_implies, implies_true, exists_eq_left, exists_eq_left', Option.some.injEq, reduceIte, Nat.reduceEqDiff, Nat.reduceLT, Nat.reduceLeDiff, Nat.reduceAdd, Nat.reduceSub, Nat.reduceMul, eq_self, ne_eq, and_imp, forall_const, reduceCtorEq, am_w, List.map_cons, List.map_nil, List.sum_cons, List.sum_nil, Value.category, Nat.zero_le, Nat.le_refl]
      rw [er]
      have g2 : mg m ad Xn Yq k (am_sI k 10 27 m (am_I k 10 27 m + Int32.ofNat 0)) := mg.sI (by omega)
      have y5 := y2.2.2.2.2.1
      exact ⟨y2.to g2 ⟨y5.1, y5.2.1, by simp only [am_hs, true_and, and_true, and_self, true_or, or_true, false_or, or_false, false_and, and_false, not_true_eq_false, not_false_eq_true, Classical.not_not, true_implies, false_implies, implies_true, exists_eq_left, exists_eq_left', Option.some.injEq, reduceIte, Nat.reduceEqDiff, Nat.reduceLT, Nat.reduceLeDiff, Nat.reduceAdd, Nat.reduceSub, Nat.reduceMul, eq_self, ne_eq, and_imp, forall_const, reduceCtorEq, am_w, List.map_cons, List.map_nil, List.sum_cons, List.sum_nil, Value.category, Nat.zero_le, Nat.le_refl]; exact y5.2.2.1, by simp only [am_hs, true_and, and_true, and_self, true_or, or_true, false_or, or_false, false_and, and_false, not_true_eq_false, not_false_eq_true, Classical.not_not, true_implies, false_implies, implies_true, exists_eq_left, exists_eq_left', Option.some.injEq, reduceIte, Nat.reduceEqDiff, Nat.reduceLT, Nat.reduceLeDiff, Nat.reduceAdd, Nat.reduceSub, Nat.reduceMul, eq_self, ne_eq, and_imp, forall_const, reduceCtorEq, am_w, List.map_cons, List.map_nil, List.sum_cons, List.sum_nil, Value.category, Nat.zero_le, Nat.le_refl]; exact y5.2.2.2⟩ (fun q z => by cases z), g.tr g2, fun a p' z => by cases z⟩
  | error e =>
    have ev : v = -1 := ev
    have er : r = .error e := hr
    have y2 : MY F n k m ad (.error e) := y2
    simp (disch := omega) only [k2, ev, qi_lt, qi_le, qi_eq, qi_nn, qi_in, qi_add, qi_l, ql_i, ql_lt, ql_le, ql_eq, ql_add, qc_lt, qc_eq, qc_ge, qc_gt, qc_le, true_and, and_true, and_self, true_or, or_true, false_or, or_false, false_and, and_false, not_true_eq_false, not_false_eq_true, Classical.not_not, true_implies, false_implies, implies_true, exists_eq_left, exists_eq_left', Option.some.injEq, reduceIte, Nat.reduceEqDiff, Nat.reduceLT, Nat.reduceLeDiff, Nat.reduceAdd, Nat.reduceSub, Nat.reduceMul, eq_self, ne_eq, and_imp, forall_const, reduceCtorEq, am_w, List.map_cons, List.map_nil, List.sum_cons, List.sum_nil, Value.category, Nat.zero_le, Nat.le_refl]
    rw [er]
    have g2 : mg m ad Xn Yq k (am_sI k 10 27 m (am_I k 10 27 m + Int32.ofNat 0)) := mg.sI (by omega)
    have y5 := y2.2.2.2.2.1
    exact ⟨y2.to g2 ⟨y5.1, y5.2.1, by simp only [am_hs, true_and, and_true, and_self, true_or, or_true, false_or, or_false, false_and, and_false, not_true_eq_false, not_false_eq_true, Classical.not_not, true_implies, false_implies, implies_true, exists_eq_left, exists_eq_left', Option.some.injEq, reduceIte, Nat.reduceEqDiff, Nat.reduceLT, Nat.reduceLeDiff, Nat.reduceAdd, Nat.reduceSub, Nat.reduceMul, eq_self, ne_eq, and_imp, forall_const, reduceCtorEq, am_w, List.map_cons, List.map_nil, List.sum_cons, List.sum_nil, Value.category, Nat.zero_le, Nat.le_refl]; exact y5.2.2.1, by simp only [am_hs, true_and, and_true, and_self, true_or, or_true, false_or, or_false, false_and, and_false, not_true_eq_false, not_false_eq_true, Classical.not_not, true_implies, false_implies, implies_true, exists_eq_left, exists_eq_left', Option.some.injEq, reduceIte, Nat.reduceEqDiff, Nat.reduceLT, Nat.reduceLeDiff, Nat.reduceAdd, Nat.reduceSub, Nat.reduceMul, eq_self, ne_eq, and_imp, forall_const, reduceCtorEq, am_w, List.map_cons, List.map_nil, List.sum_cons, List.sum_nil, Value.category, Nat.zero_le, Nat.le_refl]; exact y5.2.2.2⟩ (fun q z => by cases z), g.tr g2, fun a p' z => by cases z⟩
end MA
