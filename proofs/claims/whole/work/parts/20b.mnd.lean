/-! deps: 20a -/
/-! ===== the reference reads: a byte that must stand, little numbers ===== -/
/-! 183 yX10_takeLittle -/
theorem vc_183_0 (tt : Nat → Nat) (a0 : Nat) (a1 : Int32) (h : am_H) (Q : Int64 → am_H → Prop) (Qx : String → am_H → Prop) (q :
  am_Ev tt 183 5 [some (.ref a0), some (.int a1), some (.long (Int64.ofNat 0)), none, some (.int (Int32.ofNat 0)), none] [] h (am_pL Q Qx)) :
  am_Ev tt 183 0 [some (.ref a0), some (.int a1), none, none, none, none] [] h (am_pL Q Qx) := am_vc 7 [(5, [true, true, true, false, true, false])] q
theorem vc_183_5 (tt : Nat → Nat) (a0 : Nat) (a1 : Int32) (a2 : Int64) (a4 : Int32) (h : am_H) (Q : Int64 → am_H → Prop) (Qx : String → am_H → Prop) (q :
  ((a1 ≤ a4 →
   Q a2 h) ∧
  (¬ (a1 ≤ a4) →
   (am_K h a0 = 11 ∧ ∃ (Q2 : Int32 → am_H → Prop) (X2 : String → am_H → Prop), am_Ct tt 176 [.ref a0] h (am_pI Q2 X2) ∧ (∀ x3 h1, Q2 x3 h1 →
    ((x3 = (Int32.ofNat 0) →
     Q a2 h1) ∧
    (¬ (x3 = (Int32.ofNat 0)) →
     (am_K h1 a0 = 11 ∧ ∃ (Q5 : Int32 → am_H → Prop) (X5 : String → am_H → Prop), am_Ct tt 179 [.ref a0] h1 (am_pI Q5 X5) ∧ (∀ x6 h4, Q5 x6 h4 →
      am_Ev tt 183 5 [some (.ref a0), some (.int a1), some (.long (a2 ||| (((x6).toInt64 &&& (Int64.ofNat 255)) <<< ((((Int32.ofNat 8) * a4)).toInt64 &&& 63)))), none, some (.int (a4 + (Int32.ofNat 1))), none] [] h4 (am_pL Q Qx)) ∧ (∀ E7 h4, X5 E7 h4 → Qx E7 h4))))) ∧ (∀ E8 h1, X2 E8 h1 → Qx E8 h1))))) :
  am_Ev tt 183 5 [some (.ref a0), some (.int a1), some (.long a2), none, some (.int a4), none] [] h (am_pL Q Qx) := am_vc 25 [(5, [true, true, true, false, true, false])] q

section MB2
variable {tt : Nat → Nat} {F : Fn} {n m : Nat} {ad : Nat → Nat} {h h' h'' k k' : am_H} {s : Ms} {X Y X' Y' : Nat → Prop}
theorem ct_mneed (y : MY F n h m ad s) {v : Nat} {r : Except pe (Unit × Nat)} (hr : r = bs s fun p => tX F n p v) : am_Ct tt 180 [.ref m, .int (Int32.ofNat v)] h (am_pV (fun k => MY F n k m ad (st r) ∧ mg m ad Xn Yq h k) no_x) := by
  have k1 := y.1.1
  have n5 := y.2.2.1
  -- the place goes on
  have l26 : ∀ (k : am_H) (s' : Ms), MY F n k m ad s' → mg m ad Xn Yq h k → (∀ p, s' = .ok p → p < n ∧ st r = .ok (p + 1)) → (∀ e, s' = .error e → st r = .error e) → am_Ev tt 180 26 [some (.ref m), none, none] [] k (am_pV (fun k => MY F n k m ad (st r) ∧ mg m ad Xn Yq h k) no_x) := by
    intro k s' y2 g h1 h2
    have k2 := y2.1.1
    refine vc_180_26 tt _ _ _ _ ?_
    cases s' with
    | ok p =>
      have e27 := y2.2.2.2.2.1.2
      have e20 := y2.2.2.2.2.1.1
      obtain ⟨p1, p2⟩ := h1 p rfl
      rw [p2]
      simp (disch := omega) only [k2, e27, qi_lt, qi_le, qi_eq, qi_nn, qi_in, qi_add, qi_l, ql_i, ql_lt, ql_le, ql_eq, ql_add, qc_lt, qc_eq, qc_ge, qc_gt, qc_le, true_and, and_true, and_self, true_or, or_true, false_or, or_false, false_and, and_false, not_true_eq_false, not_false_eq_true, Classical.not_not, true_implies, false_implies, implies_true, exists_eq_left, exists_eq_left', Option.some.injEq, reduceIte, Nat.reduceEqDiff, Nat.reduceLT, Nat.reduceLeDiff, Nat.reduceAdd, Nat.reduceSub, Nat.reduceMul, eq_self, ne_eq, and_imp, forall_const, reduceCtorEq, am_w, List.map_cons, List.map_nil, List.sum_cons, List.sum_nil, Value.category, Nat.zero_le, Nat.le_refl]
      have g2 : mg m ad Xn Yq k (am_sI k 10 27 m (Int32.ofNat (p + 1))) := mg.sI (by omega)
      exact ⟨y2.to g2 ⟨by simp only [am_hs, true_and, and_true, and_self, true_or, or_true, false_or, or_false, false_and, and_false, not_true_eq_false, not_false_eq_true, Classical.not_not, true_implies, false_implies, implies_true, exists_eq_left, exists_eq_left', Option.some.injEq, reduceIte, Nat.reduceEqDiff, Nat.reduceLT, Nat.reduceLeDiff, Nat.reduceAdd, Nat.reduceSub, Nat.reduceMul, eq_self, ne_eq, and_imp, forall_const, reduceCtorEq, am_w, List.map_cons, List.map_nil, List.sum_cons, List.sum_nil, Value.category, Nat.zero_le, Nat.le_refl]; exact e20, by simp only [am_hs, true_and, and_true, and_self, true_or, or_true, false_or, or_false, false_and, and_false, not_true_eq_false, not_false_eq_true, Classical.not_not, true_implies, false_implies, implies_true, exists_eq_left, exists_eq_left', Option.some.injEq, reduceIte, Nat.reduceEqDiff, Nat.reduceLT, Nat.reduceLeDiff, Nat.reduceAdd, Nat.reduceSub, Nat.reduceMul, eq_self, ne_eq, and_imp, forall_const, reduceCtorEq, am_w, List.map_cons, List.map_nil, List.sum_cons, List.sum_nil, Value.category, Nat.zero_le, Nat.le_refl]⟩ (fun q z => by cases z; omega), g.tr g2⟩
    | error e =>
      rw [h2 e rfl]
      simp (disch := omega) only [k2, qi_lt, qi_le, qi_eq, qi_nn, qi_in, qi_add, qi_l, ql_i, ql_lt, ql_le, ql_eq, ql_add, qc_lt, qc_eq, qc_ge, qc_gt, qc_le, true_and, and_true, and_self, true_or, or_true, false_or, or_false, false_and, and_false, not_true_eq_false, not_false_eq_true, Classical.not_not, true_implies, false_implies, implies_true, exists_eq_left, exists_eq_left', Option.some.injEq, reduceIte, Nat.reduceEqDiff, Nat.reduceLT, Nat.reduceLeDiff, Nat.reduceAdd, Nat.reduceSub, Nat.reduceMul, eq_self, ne_eq, and_imp, forall_const, reduceCtorEq, am_w, List.map_cons, List.map_nil, List.sum_cons, List.sum_nil, Value.category, Nat.zero_le, Nat.le_refl]
      have g2 : mg m ad Xn Yq k (am_sI k 10 27 m (am_I k 10 27 m + Int32.ofNat 1)) := mg.sI (by omega)
      have y5 := y2.2.2.2.2.1
      exact ⟨y2.to g2 ⟨y5.1, y5.2.1, by simp only [am_hs, true_and, and_true, and_self, true_or, or_true, false_or, or_false, false_and, and_false, not_true_eq_false, not_false_eq_true, Classical.not_not, true_implies, false_implies, implies_true, exists_eq_left, exists_eq_left', Option.some.injEq, reduceIte, Nat.reduceEqDiff, Nat.reduceLT, Nat.reduceLeDiff, Nat.reduceAdd, Nat.reduceSub, Nat.reduceMul, eq_self, ne_eq, and_imp, forall_const, reduceCtorEq, am_w, List.map_cons, List.map_nil, List.sum_cons, List.sum_nil, Value.category, Nat.zero_le, Nat.le_refl]; exact y5.2.2.1, by simp only [am_hs, true_and, and_true, and_self, true_or, or_true, false_or, or_false, false_and, and_false, not_true_eq_false, not_false_eq_true, Classical.not_not, true_implies, false_implies, implies_true, exists_eq_left, exists_eq_left', Option.some.injEq, reduceIte, Nat.reduceEqDiff, Nat.reduceLT, Nat.reduceLeDiff, Nat.reduceAdd, Nat.reduceSub, Nat.reduceMul, eq_self, ne_eq, and_imp, forall_const, reduceCtorEq, am_w, List.map_cons, List.map_nil, List.sum_cons, List.sum_nil, Value.category, Nat.zero_le, Nat.le_refl]; exact y5.2.2.2⟩ (fun q z => by cases z), g.tr g2⟩
  refine vc_180_0 tt _ _ h _ _ ⟨k1, _, _, ct_mnext y, fun w k e => ?_, fun _ _ z => z.elim⟩
  obtain ⟨y2, g, ev, eh⟩ := e
  refine ⟨y2.1.1, _, _, ct_mfine y2, fun w2 k2 e => ?_, fun _ _ z => z.elim⟩
  obtain ⟨rfl, rfl⟩ := e
  have kk := y2.1.1
  cases s with
  | ok p =>
    have pn := y.2.2.2.2.2 p rfl
    by_cases c : p < n
    · have eb : (bs (Except.ok p : Ms) fun p => if p < n then .ok p else .error (1, n)) = .ok p := by show (if p < n then _ else _) = _; rw [if_pos c]
      have ev : w = F p &&& Int32.ofNat 255 := by rw [ev]; show (if p < n then _ else _) = _; rw [if_pos c]
      have hr2 : r = if F p &&& Int32.ofNat 255 = Int32.ofNat v then .ok ((), p + 1) else .error (2, p) := by rw [hr]; show tX F n p v = _; rw [tX, if_pos c]
      rw [eb] at y2 ⊢
      have e27 := y2.2.2.2.2.1.2
      refine ⟨fun z => absurd z (show ¬ Int32.ofNat 1 = Int32.ofNat 0 by decide), fun _ => ⟨fun c2 => ?_, fun c2 => ?_⟩⟩
      · rw [← ev, if_pos c2] at hr2
        exact l26 k2 (.ok p) y2 g (fun q z => by cases z; exact ⟨c, by rw [hr2]; rfl⟩) (fun e z => by cases z)
      · rw [← ev, if_neg c2] at hr2
        simp (disch := omega) only [kk, e27, qi_lt, qi_le, qi_eq, qi_nn, qi_in, qi_add, qi_l, ql_i, ql_lt, ql_le, ql_eq, ql_add, qc_lt, qc_eq, qc_ge, qc_gt, qc_le, true_and, and_true, and_self, true_or, or_true, false_or, or_false, false_and, and_false, not_true_eq_false, not_false_eq_true, Classical.not_not, true_implies, false_implies, implies_true, exists_eq_left, exists_eq_left', Option.some.injEq, reduceIte, Nat.reduceEqDiff, Nat.reduceLT, Nat.reduceLeDiff, Nat.reduceAdd, Nat.reduceSub, Nat.reduceMul, eq_self, ne_eq, and_imp, forall_const, reduceCtorEq, am_w, List.map_cons, List.map_nil, List.sum_cons, List.sum_nil, Value.category, Nat.zero_le, Nat.le_refl]
        refine ⟨_, _, ct_mfails y2 (f := 2) (pl := p) (by omega) (by omega), fun k3 w3 => ?_, fun _ _ z => z.elim⟩
        exact l26 k3 (.error (2, p)) w3.1 (g.tr w3.2) (fun q z => by cases z) (fun e z => by cases z; rw [hr2]; rfl)
    · have eb : (bs (Except.ok p : Ms) fun p => if p < n then .ok p else .error (1, n)) = .error (1, n) := by show (if p < n then _ else _) = _; rw [if_neg c]
      have hr2 : r = .error (1, n) := by rw [hr]; show tX F n p v = _; rw [tX, if_neg c]
      rw [eb] at y2 ⊢
      refine ⟨fun _ => ?_, fun z => absurd rfl z⟩
      exact l26 k2 (.error (1, n)) y2 g (fun q z => by cases z) (fun e z => by cases z; rw [hr2]; rfl)
  | error e =>
    have hr2 : r = .error e := hr
    refine ⟨fun _ => ?_, fun z => absurd rfl z⟩
    exact l26 k2 (.error e) y2 g (fun q z => by cases z) (fun e' z => by cases z; rw [hr2]; rfl)
theorem l255 {x : Int64} : x &&& Int64.ofNat 255 &&& Int64.ofNat 255 = x &&& Int64.ofNat 255 := by
  apply Int64.toBitVec_inj.1
  rw [Int64.toBitVec_and, Int64.toBitVec_and, BitVec.and_assoc, BitVec.and_self]
theorem ct_mtakeLittle (y : MY F n h m ad s) {w : Nat} (hw : w ≤ 8) {r : Except pe (Int64 × Nat)} (hr : r = bs s fun p => tL F n p w) : am_Ct tt 183 [.ref m, .int (Int32.ofNat w)] h (am_pL (fun v k => MY F n k m ad (st r) ∧ mg m ad Xn Yq h k ∧ ∀ a p', r = .ok (a, p') → v = a) no_x) := by
  have n5 := y.2.2.1
  -- a fault goes on
  have bad : ∀ (e : pe) (d i : Nat) (k : am_H) (v : Int64), d + i = w → MY F n k m ad (.error e) → mg m ad Xn Yq h k → r = .error e → am_Ev tt 183 5 [some (.ref m), some (.int (Int32.ofNat w)), some (.long v), none, some (.int (Int32.ofNat i)), none] [] k (am_pL (fun v k => MY F n k m ad (st r) ∧ mg m ad Xn Yq h k ∧ ∀ a p', r = .ok (a, p') → v = a) no_x) := by
    intro e d i k v ei y2 g er
    have k2 := y2.1.1
    refine vc_183_5 tt _ _ _ _ _ _ _ ⟨fun _ => ?_, fun _ => ⟨k2, _, _, ct_mfine y2, fun w2 k3 e2 => ?_, fun _ _ z => z.elim⟩⟩
    · rw [er]; exact ⟨y2, g, fun a p' z => by cases z⟩
    · obtain ⟨rfl, rfl⟩ := e2
      refine ⟨fun _ => ?_, fun z => absurd rfl z⟩
      rw [er]; exact ⟨y2, g, fun a p' z => by cases z⟩
  cases s with
  | error e => exact vc_183_0 tt _ _ h _ _ (bad e w 0 h _ (by omega) y mg.re hr)
  | ok p =>
    have pn := y.2.2.2.2.2 p rfl
    have key : ∀ (d i : Nat) (k : am_H), d + i = w → MY F n k m ad (.ok (p + i)) → mg m ad Xn Yq h k → am_Ev tt 183 5 [some (.ref m), some (.int (Int32.ofNat w)), some (.long (lt F p i)), none, some (.int (Int32.ofNat i)), none] [] k (am_pL (fun v k => MY F n k m ad (st r) ∧ mg m ad Xn Yq h k ∧ ∀ a p', r = .ok (a, p') → v = a) no_x) := by
      intro d
      induction d with
      | zero =>
        intro i k ei y2 g
        have e : i = w := by omega
        subst e
        have pn2 := y2.2.2.2.2.2 _ rfl
        have er : r = .ok (lt F p i, p + i) := by rw [hr]; exact tL_in pn2
        refine vc_183_5 tt _ _ _ _ _ _ _ ⟨fun _ => ?_, fun z => absurd (Int32.le_refl _) z⟩
        rw [er]
        exact ⟨y2, g, fun a p' z => by cases z; rfl⟩
      | succ d ih =>
        intro i k ei y2 g
        have k2 := y2.1.1
        have pn2 := y2.2.2.2.2.2 _ rfl
        refine vc_183_5 tt _ _ _ _ _ _ _ ?_
        have q1 : ¬ w ≤ i := by omega
        simp (disch := omega) only [k2, q1, qi_lt, qi_le, qi_eq, qi_nn, qi_in, qi_add, qi_l, ql_i, ql_lt, ql_le, ql_eq, ql_add, qc_lt, qc_eq, qc_ge, qc_gt, qc_le, true_and, and_true, and_self, true_or, or_true, false_or, or_false, false_and, and_false, not_true_eq_false, not_false_eq_true, Classical.not_not, true_implies, false_implies, implies_true, exists_eq_left, exists_eq_left', Option.some.injEq, reduceIte, Nat.reduceEqDiff, Nat.reduceLT, Nat.reduceLeDiff, Nat.reduceAdd, Nat.reduceSub, Nat.reduceMul, eq_self, ne_eq, and_imp, forall_const, reduceCtorEq, am_w, List.map_cons, List.map_nil, List.sum_cons, List.sum_nil, Value.category, Nat.zero_le, Nat.le_refl]
        refine ⟨_, _, ct_mfine y2, fun w2 k3 e2 => ?_, fun _ _ z => z.elim⟩
        obtain ⟨rfl, rfl⟩ := e2
        refine ⟨fun z => absurd z (show ¬ Int32.ofNat 1 = Int32.ofNat 0 by decide), fun _ => ⟨k2, _, _, ct_mtake y2 rfl, fun x k4 e4 => ?_, fun _ _ z => z.elim⟩⟩
        obtain ⟨y4, g4, v4⟩ := e4
        by_cases c : p + i < n
        · have et : bs (Except.ok (p + i) : Ms) (tB F n) = .ok (F (p + i) &&& Int32.ofNat 255, p + i + 1) := by show tB F n (p + i) = _; rw [tB, if_pos c]
          rw [et] at y4 v4
          have ex := v4 _ _ rfl
          have := ih (i + 1) k4 (by omega) y4 (g.tr g4)
          have el : lt F p (i + 1) = lt F p i ||| (((x.toInt64) &&& Int64.ofNat 255) <<< (((Int32.ofNat 8 * Int32.ofNat i).toInt64) &&& 63)) := by
            rw [ex, lt_b, l255, qi_mul, qi_l (by omega), sh_s8 i (by omega)]
            rfl
          rw [el] at this
          exact this
        · have et : bs (Except.ok (p + i) : Ms) (tB F n) = .error (1, n) := by show tB F n (p + i) = _; rw [tB, if_neg c]
          rw [et] at y4
          exact bad (1, n) d (i + 1) k4 _ (by omega) y4 (g.tr g4) (by rw [hr]; show tL F n p w = _; rw [tL, if_neg (by omega)])
    exact vc_183_0 tt _ _ h _ _ (key w 0 h (by omega) y mg.re)
end MB2
