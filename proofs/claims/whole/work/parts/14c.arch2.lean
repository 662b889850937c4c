/-! deps: 14b -/
/-! ===== the class's archives: sums, begun anew ===== -/
def rdy (a : sA) : Prop := ∀ i, i < a_n a → ¬ e_un (a_E a i) = 0 ∧ (0 < e_sz (a_E a i) → a_kn a i = true)
section ARD
variable {tt : Nat → Nat} {h : am_H} {cd : Nat → Nat} {bb : Nat → Nat → Nat} {w : Nat} {a : sA}
theorem ct_isReady (s : car_s h cd bb w) (v : car_v h cd bb w a) (wf : wfA a) : am_Ct tt 7 [.ref (cd (c_ar w))] h (am_pI (fun x h' => h' = h ∧ (x = Int32.ofNat 1 ∧ rdy a ∨ x = Int32.ofNat 0 ∧ ¬ rdy a)) no_x) := by
  have s' := s
  obtain ⟨s1, s2, s3, s4, s5, s6, s7, s8, s9⟩ := s
  obtain ⟨v1, v2, v3⟩ := v
  obtain ⟨f1, f2, f3, f4⟩ := wf
  have key : ∀ (d i : Nat), d + i = a_n a → (∀ j, j < i → ¬ e_un (a_E a j) = 0 ∧ (0 < e_sz (a_E a j) → a_kn a j = true)) →
      am_Ev tt 7 2 [some (.ref (cd (c_ar w))), some (.int (Int32.ofNat i))] [] h (am_pI (fun x h' => h' = h ∧ (x = Int32.ofNat 1 ∧ rdy a ∨ x = Int32.ofNat 0 ∧ ¬ rdy a)) no_x) := by
    intro d
    induction d with
    | zero =>
      intro i e hi
      refine vc_7_2 tt _ _ _ _ _ ?_
      simp (disch := omega) only [s1, v1, am_hs, qi_lt, qi_le, qi_eq, qi_nn, qi_in, qi_add, qi_l, ql_i, ql_lt, ql_le, ql_eq, ql_add, qc_lt, qc_eq, qc_ge, qc_gt, qc_le, true_and, and_true, and_self, true_or, or_true, false_or, or_false, false_and, and_false, not_true_eq_false, not_false_eq_true, Classical.not_not, true_implies, false_implies, implies_true, exists_eq_left, exists_eq_left', Option.some.injEq, reduceIte, Nat.reduceEqDiff, Nat.reduceLT, Nat.reduceLeDiff, Nat.reduceAdd, Nat.reduceSub, Nat.reduceMul, eq_self, ne_eq, and_imp, forall_const, reduceCtorEq, am_w, List.map_cons, List.map_nil, List.sum_cons, List.sum_nil, Value.category, Nat.zero_le, Nat.le_refl]
      refine ⟨fun _ => fun j hj => hi j (by omega), fun z => by omega⟩
    | succ d ih =>
      intro i e hi
      obtain ⟨t1, t2⟩ := s8 i (by omega)
      obtain ⟨u1, u2, u3, u4, u5, u6, u7, u8⟩ := t2
      obtain ⟨x1, x2, x3, x4, x5, x6⟩ := v2 i (by omega)
      obtain ⟨g1, g2, g3, g4⟩ := f2 i (by omega)
      have bad : ¬ rdy a → am_Ev tt 7 35 [none, none] [] h (am_pI (fun x h' => h' = h ∧ (x = Int32.ofNat 1 ∧ rdy a ∨ x = Int32.ofNat 0 ∧ ¬ rdy a)) no_x) := by
        intro hb
        refine vc_7_35 tt _ _ _ ?_
        simp (disch := omega) only [qi_lt, qi_le, qi_eq, qi_nn, qi_in, qi_add, qi_l, ql_i, ql_lt, ql_le, ql_eq, ql_add, qc_lt, qc_eq, qc_ge, qc_gt, qc_le, true_and, and_true, and_self, true_or, or_true, false_or, or_false, false_and, and_false, not_true_eq_false, not_false_eq_true, Classical.not_not, true_implies, false_implies, implies_true, exists_eq_left, exists_eq_left', Option.some.injEq, reduceIte, Nat.reduceEqDiff, Nat.reduceLT, Nat.reduceLeDiff, Nat.reduceAdd, Nat.reduceSub, Nat.reduceMul, eq_self, ne_eq, and_imp, forall_const, reduceCtorEq, am_w, List.map_cons, List.map_nil, List.sum_cons, List.sum_nil, Value.category, Nat.zero_le, Nat.le_refl]
        exact hb
      refine vc_7_2 tt _ _ _ _ _ ?_
      simp (disch := omega) only [s1, s2, s3, s4, v1, t1, u1, x2, am_hs, qi_lt, qi_le, qi_eq, qi_nn, qi_in, qi_add, qi_l, ql_i, ql_lt, ql_le, ql_eq, ql_add, qc_lt, qc_eq, qc_ge, qc_gt, qc_le, true_and, and_true, and_self, true_or, or_true, false_or, or_false, false_and, and_false, not_true_eq_false, not_false_eq_true, Classical.not_not, true_implies, false_implies, implies_true, exists_eq_left, exists_eq_left', Option.some.injEq, reduceIte, Nat.reduceEqDiff, Nat.reduceLT, Nat.reduceLeDiff, Nat.reduceAdd, Nat.reduceSub, Nat.reduceMul, eq_self, ne_eq, and_imp, forall_const, reduceCtorEq, am_w, List.map_cons, List.map_nil, List.sum_cons, List.sum_nil, Value.category, Nat.zero_le, Nat.le_refl]
      refine ⟨fun z => by omega, fun _ => ⟨by omega, fun z => bad fun r => (r i (by omega)).1 z, fun z => ⟨by omega, _, _, ct_isLost s' g4 (v3 _ g4) u1 x4 (by omega) x5, fun x k e => ?_, fun _ _ z => z⟩⟩⟩
      obtain ⟨e1, e2⟩ := e
      subst e1 e2
      simp (disch := omega) only [b01_z, qi_lt, qi_le, qi_eq, qi_nn, qi_in, qi_add, qi_l, ql_i, ql_lt, ql_le, ql_eq, ql_add, qc_lt, qc_eq, qc_ge, qc_gt, qc_le, true_and, and_true, and_self, true_or, or_true, false_or, or_false, false_and, and_false, not_true_eq_false, not_false_eq_true, Classical.not_not, true_implies, false_implies, implies_true, exists_eq_left, exists_eq_left', Option.some.injEq, reduceIte, Nat.reduceEqDiff, Nat.reduceLT, Nat.reduceLeDiff, Nat.reduceAdd, Nat.reduceSub, Nat.reduceMul, eq_self, ne_eq, and_imp, forall_const, reduceCtorEq, am_w, List.map_cons, List.map_nil, List.sum_cons, List.sum_nil, Value.category, Nat.zero_le, Nat.le_refl]
      refine ⟨fun e => ih (i + 1) (by omega) (fun j hj => ?_), fun e => bad fun r => ?_⟩
      · by_cases c : j = i
        · subst c
          refine ⟨z, fun hz => ?_⟩
          simp [hz] at e
          exact e
        · exact hi j (by omega)
      · simp at e
        have := (r i (by omega)).2 e.1
        rw [a_kn] at this
        rw [this] at e
        cases e.2
  exact vc_7_0 tt _ h _ _ (key (a_n a) 0 (by omega) (fun j hj => by omega))
theorem sbo_le {E : Nat → sE} {b : Nat} : ∀ {n : Nat}, (∀ i, i < n → e_sz (E i) ≤ 2400) → sbo E b n ≤ 2400 * n
  | 0, _ => Nat.zero_le _
  | n + 1, h => by
    have := sbo_le (E := E) (b := b) (n := n) (fun i hi => h i (by omega))
    have h2 := h n (by omega)
    unfold sbo
    split <;> omega
theorem sfo_le {E : Nat → sE} {b : Nat} : ∀ {n : Nat}, sfo E b n ≤ n
  | 0 => Nat.zero_le _
  | n + 1 => by
    have := sfo_le (E := E) (b := b) (n := n)
    unfold sfo
    split <;> omega
theorem ct_bytesOf {b : Nat} (s : car_s h cd bb w) (v : car_v h cd bb w a) (wf : wfA a) (hb : b < 6) : am_Ct tt 8 [.ref (cd (c_ar w)), .int (Int32.ofNat b)] h (am_pI (fun x h' => h' = h ∧ x = Int32.ofNat (sbo (a_E a) b (a_n a))) no_x) := by
  obtain ⟨s1, s2, s3, s4, s5, s6, s7, s8, s9⟩ := s
  obtain ⟨v1, v2, v3⟩ := v
  obtain ⟨f1, f2, f3, f4⟩ := wf
  have key : ∀ (d i : Nat), d + i = a_n a →
      am_Ev tt 8 4 [some (.ref (cd (c_ar w))), some (.int (Int32.ofNat b)), some (.int (Int32.ofNat (sbo (a_E a) b i))), some (.int (Int32.ofNat i))] [] h (am_pI (fun x h' => h' = h ∧ x = Int32.ofNat (sbo (a_E a) b (a_n a))) no_x) := by
    intro d
    induction d with
    | zero =>
      intro i e
      have : i = a_n a := by omega
      subst this
      refine vc_8_4 tt _ _ _ _ _ _ _ ?_
      simp (disch := omega) only [s1, v1, am_hs, qi_lt, qi_le, qi_eq, qi_nn, qi_in, qi_add, qi_l, ql_i, ql_lt, ql_le, ql_eq, ql_add, qc_lt, qc_eq, qc_ge, qc_gt, qc_le, true_and, and_true, and_self, true_or, or_true, false_or, or_false, false_and, and_false, not_true_eq_false, not_false_eq_true, Classical.not_not, true_implies, false_implies, implies_true, exists_eq_left, exists_eq_left', Option.some.injEq, reduceIte, Nat.reduceEqDiff, Nat.reduceLT, Nat.reduceLeDiff, Nat.reduceAdd, Nat.reduceSub, Nat.reduceMul, eq_self, ne_eq, and_imp, forall_const, reduceCtorEq, am_w, List.map_cons, List.map_nil, List.sum_cons, List.sum_nil, Value.category, Nat.zero_le, Nat.le_refl]
    | succ d ih =>
      intro i e
      obtain ⟨t1, t2⟩ := s8 i (by omega)
      obtain ⟨u1, u2, u3, u4, u5, u6, u7, u8⟩ := t2
      obtain ⟨x1, x2, x3, x4, x5, x6⟩ := v2 i (by omega)
      obtain ⟨g1, g2, g3, g4⟩ := f2 i (by omega)
      have hs := sbo_le (E := a_E a) (b := b) (n := i) (fun j hj => (f2 j (by omega)).2.2.1)
      have nx : ∀ z, z = sbo (a_E a) b (i + 1) → am_Ev tt 8 37 [some (.ref (cd (c_ar w))), some (.int (Int32.ofNat b)), some (.int (Int32.ofNat z)), some (.int (Int32.ofNat i))] [] h (am_pI (fun x h' => h' = h ∧ x = Int32.ofNat (sbo (a_E a) b (a_n a))) no_x) := by
        intro z ez
        refine vc_8_37 tt _ _ _ _ _ _ _ ?_
        simp (disch := omega) only [qi_lt, qi_le, qi_eq, qi_nn, qi_in, qi_add, qi_l, ql_i, ql_lt, ql_le, ql_eq, ql_add, qc_lt, qc_eq, qc_ge, qc_gt, qc_le, true_and, and_true, and_self, true_or, or_true, false_or, or_false, false_and, and_false, not_true_eq_false, not_false_eq_true, Classical.not_not, true_implies, false_implies, implies_true, exists_eq_left, exists_eq_left', Option.some.injEq, reduceIte, Nat.reduceEqDiff, Nat.reduceLT, Nat.reduceLeDiff, Nat.reduceAdd, Nat.reduceSub, Nat.reduceMul, eq_self, ne_eq, and_imp, forall_const, reduceCtorEq, am_w, List.map_cons, List.map_nil, List.sum_cons, List.sum_nil, Value.category, Nat.zero_le, Nat.le_refl]
        rw [ez]
        exact ih (i + 1) (by omega)
      refine vc_8_4 tt _ _ _ _ _ _ _ ?_
      simp (disch := omega) only [s1, s2, s3, s4, v1, t1, u1, x4, x5, am_hs, qi_lt, qi_le, qi_eq, qi_nn, qi_in, qi_add, qi_l, ql_i, ql_lt, ql_le, ql_eq, ql_add, qc_lt, qc_eq, qc_ge, qc_gt, qc_le, true_and, and_true, and_self, true_or, or_true, false_or, or_false, false_and, and_false, not_true_eq_false, not_false_eq_true, Classical.not_not, true_implies, false_implies, implies_true, exists_eq_left, exists_eq_left', Option.some.injEq, reduceIte, Nat.reduceEqDiff, Nat.reduceLT, Nat.reduceLeDiff, Nat.reduceAdd, Nat.reduceSub, Nat.reduceMul, eq_self, ne_eq, and_imp, forall_const, reduceCtorEq, am_w, List.map_cons, List.map_nil, List.sum_cons, List.sum_nil, Value.category, Nat.zero_le, Nat.le_refl]
      refine ⟨fun z => by omega, fun _ => ⟨by omega, fun z => nx _ ?_, fun z => ⟨by omega, nx _ ?_⟩⟩⟩
      · simp [sbo, z]
      · simp [sbo, z]
  exact vc_8_0 tt _ _ h _ _ (key (a_n a) 0 (by omega))
theorem ct_filesOf {b : Nat} (s : car_s h cd bb w) (v : car_v h cd bb w a) (wf : wfA a) (hb : b < 6) : am_Ct tt 9 [.ref (cd (c_ar w)), .int (Int32.ofNat b)] h (am_pI (fun x h' => h' = h ∧ x = Int32.ofNat (sfo (a_E a) b (a_n a))) no_x) := by
  obtain ⟨s1, s2, s3, s4, s5, s6, s7, s8, s9⟩ := s
  obtain ⟨v1, v2, v3⟩ := v
  obtain ⟨f1, f2, f3, f4⟩ := wf
  have key : ∀ (d i : Nat), d + i = a_n a →
      am_Ev tt 9 4 [some (.ref (cd (c_ar w))), some (.int (Int32.ofNat b)), some (.int (Int32.ofNat (sfo (a_E a) b i))), some (.int (Int32.ofNat i))] [] h (am_pI (fun x h' => h' = h ∧ x = Int32.ofNat (sfo (a_E a) b (a_n a))) no_x) := by
    intro d
    induction d with
    | zero =>
      intro i e
      have : i = a_n a := by omega
      subst this
      refine vc_9_4 tt _ _ _ _ _ _ _ ?_
      simp (disch := omega) only [s1, v1, am_hs, qi_lt, qi_le, qi_eq, qi_nn, qi_in, qi_add, qi_l, ql_i, ql_lt, ql_le, ql_eq, ql_add, qc_lt, qc_eq, qc_ge, qc_gt, qc_le, true_and, and_true, and_self, true_or, or_true, false_or, or_false, false_and, and_false, not_true_eq_false, not_false_eq_true, Classical.not_not, true_implies, false_implies, implies_true, exists_eq_left, exists_eq_left', Option.some.injEq, reduceIte, Nat.reduceEqDiff, Nat.reduceLT, Nat.reduceLeDiff, Nat.reduceAdd, Nat.reduceSub, Nat.reduceMul, eq_self, ne_eq, and_imp, forall_const, reduceCtorEq, am_w, List.map_cons, List.map_nil, List.sum_cons, List.sum_nil, Value.category, Nat.zero_le, Nat.le_refl]
    | succ d ih =>
      intro i e
      obtain ⟨t1, t2⟩ := s8 i (by omega)
      obtain ⟨u1, u2, u3, u4, u5, u6, u7, u8⟩ := t2
      obtain ⟨x1, x2, x3, x4, x5, x6⟩ := v2 i (by omega)
      obtain ⟨g1, g2, g3, g4⟩ := f2 i (by omega)
      have hs := sfo_le (E := a_E a) (b := b) (n := i)
      have nx : ∀ z, z = sfo (a_E a) b (i + 1) → am_Ev tt 9 40 [some (.ref (cd (c_ar w))), some (.int (Int32.ofNat b)), some (.int (Int32.ofNat z)), some (.int (Int32.ofNat i))] [] h (am_pI (fun x h' => h' = h ∧ x = Int32.ofNat (sfo (a_E a) b (a_n a))) no_x) := by
        intro z ez
        refine vc_9_40 tt _ _ _ _ _ _ _ ?_
        simp (disch := omega) only [qi_lt, qi_le, qi_eq, qi_nn, qi_in, qi_add, qi_l, ql_i, ql_lt, ql_le, ql_eq, ql_add, qc_lt, qc_eq, qc_ge, qc_gt, qc_le, true_and, and_true, and_self, true_or, or_true, false_or, or_false, false_and, and_false, not_true_eq_false, not_false_eq_true, Classical.not_not, true_implies, false_implies, implies_true, exists_eq_left, exists_eq_left', Option.some.injEq, reduceIte, Nat.reduceEqDiff, Nat.reduceLT, Nat.reduceLeDiff, Nat.reduceAdd, Nat.reduceSub, Nat.reduceMul, eq_self, ne_eq, and_imp, forall_const, reduceCtorEq, am_w, List.map_cons, List.map_nil, List.sum_cons, List.sum_nil, Value.category, Nat.zero_le, Nat.le_refl]
        rw [ez]
        exact ih (i + 1) (by omega)
      refine vc_9_4 tt _ _ _ _ _ _ _ ?_
      simp (disch := omega) only [s1, s2, s3, s4, v1, t1, u1, x4, x5, am_hs, qi_lt, qi_le, qi_eq, qi_nn, qi_in, qi_add, qi_l, ql_i, ql_lt, ql_le, ql_eq, ql_add, qc_lt, qc_eq, qc_ge, qc_gt, qc_le, true_and, and_true, and_self, true_or, or_true, false_or, or_false, false_and, and_false, not_true_eq_false, not_false_eq_true, Classical.not_not, true_implies, false_implies, implies_true, exists_eq_left, exists_eq_left', Option.some.injEq, reduceIte, Nat.reduceEqDiff, Nat.reduceLT, Nat.reduceLeDiff, Nat.reduceAdd, Nat.reduceSub, Nat.reduceMul, eq_self, ne_eq, and_imp, forall_const, reduceCtorEq, am_w, List.map_cons, List.map_nil, List.sum_cons, List.sum_nil, Value.category, Nat.zero_le, Nat.le_refl]
      refine ⟨fun z => by omega, fun _ => ⟨by omega, fun z => nx _ ?_, fun z => ⟨by omega, fun z2 => nx _ ?_, fun z2 => nx _ ?_⟩⟩⟩
      · simp [sfo, z]
      · simp [sfo]; omega
      · simp [sfo, z]; omega
  exact vc_9_0 tt _ _ h _ _ (key (a_n a) 0 (by omega))
theorem ct_overfull (s : car_s h cd bb w) (v : car_v h cd bb w a) (wf : wfA a) : am_Ct tt 10 [.ref (cd (c_ar w))] h (am_pI (fun x h' => h' = h ∧ (x = Int32.ofNat 1 ∧ (∃ b, b < 6 ∧ 2400 < sbo (a_E a) b (a_n a)) ∨ x = Int32.ofNat 0 ∧ ∀ b, b < 6 → sbo (a_E a) b (a_n a) ≤ 2400)) no_x) := by
  have hs : ∀ b, sbo (a_E a) b (a_n a) ≤ 57600 := fun b => by
    have := sbo_le (E := a_E a) (b := b) (n := a_n a) (fun j hj => (wf.2.1 j hj).2.2.1)
    have := wf.1
    omega
  have key : ∀ (d i : Nat), d + i = 6 → (∀ b, b < i → sbo (a_E a) b (a_n a) ≤ 2400) →
      am_Ev tt 10 2 [some (.ref (cd (c_ar w))), some (.int (Int32.ofNat i))] [] h (am_pI (fun x h' => h' = h ∧ (x = Int32.ofNat 1 ∧ (∃ b, b < 6 ∧ 2400 < sbo (a_E a) b (a_n a)) ∨ x = Int32.ofNat 0 ∧ ∀ b, b < 6 → sbo (a_E a) b (a_n a) ≤ 2400)) no_x) := by
    intro d
    induction d with
    | zero =>
      intro i e hi
      refine vc_10_2 tt _ _ _ _ _ ?_
      simp (disch := omega) only [qi_lt, qi_le, qi_eq, qi_nn, qi_in, qi_add, qi_l, ql_i, ql_lt, ql_le, ql_eq, ql_add, qc_lt, qc_eq, qc_ge, qc_gt, qc_le, true_and, and_true, and_self, true_or, or_true, false_or, or_false, false_and, and_false, not_true_eq_false, not_false_eq_true, Classical.not_not, true_implies, false_implies, implies_true, exists_eq_left, exists_eq_left', Option.some.injEq, reduceIte, Nat.reduceEqDiff, Nat.reduceLT, Nat.reduceLeDiff, Nat.reduceAdd, Nat.reduceSub, Nat.reduceMul, eq_self, ne_eq, and_imp, forall_const, reduceCtorEq, am_w, List.map_cons, List.map_nil, List.sum_cons, List.sum_nil, Value.category, Nat.zero_le, Nat.le_refl]
      refine ⟨fun _ => fun j hj => hi j (by omega), fun z => by omega⟩
    | succ d ih =>
      intro i e hi
      refine vc_10_2 tt _ _ _ _ _ ?_
      simp (disch := omega) only [s.1, qi_lt, qi_le, qi_eq, qi_nn, qi_in, qi_add, qi_l, ql_i, ql_lt, ql_le, ql_eq, ql_add, qc_lt, qc_eq, qc_ge, qc_gt, qc_le, true_and, and_true, and_self, true_or, or_true, false_or, or_false, false_and, and_false, not_true_eq_false, not_false_eq_true, Classical.not_not, true_implies, false_implies, implies_true, exists_eq_left, exists_eq_left', Option.some.injEq, reduceIte, Nat.reduceEqDiff, Nat.reduceLT, Nat.reduceLeDiff, Nat.reduceAdd, Nat.reduceSub, Nat.reduceMul, eq_self, ne_eq, and_imp, forall_const, reduceCtorEq, am_w, List.map_cons, List.map_nil, List.sum_cons, List.sum_nil, Value.category, Nat.zero_le, Nat.le_refl]
      refine ⟨fun z => by omega, fun _ => ⟨_, _, ct_bytesOf s v wf (by omega), fun x k e => ?_, fun _ _ z => z⟩⟩
      obtain ⟨e1, e2⟩ := e
      subst e1 e2
      have := hs i
      simp (disch := omega) only [qi_lt, qi_le, qi_eq, qi_nn, qi_in, qi_add, qi_l, ql_i, ql_lt, ql_le, ql_eq, ql_add, qc_lt, qc_eq, qc_ge, qc_gt, qc_le, true_and, and_true, and_self, true_or, or_true, false_or, or_false, false_and, and_false, not_true_eq_false, not_false_eq_true, Classical.not_not, true_implies, false_implies, implies_true, exists_eq_left, exists_eq_left', Option.some.injEq, reduceIte, Nat.reduceEqDiff, Nat.reduceLT, Nat.reduceLeDiff, Nat.reduceAdd, Nat.reduceSub, Nat.reduceMul, eq_self, ne_eq, and_imp, forall_const, reduceCtorEq, am_w, List.map_cons, List.map_nil, List.sum_cons, List.sum_nil, Value.category, Nat.zero_le, Nat.le_refl]
      refine ⟨fun z => ih (i + 1) (by omega) (fun b hb => ?_), fun z => ⟨i, by omega, by omega⟩⟩
      by_cases c : b = i
      · subst c; exact z
      · exact hi b (by omega)
  exact vc_10_0 tt _ h _ _ (key 6 0 (by omega) (fun b hb => by omega))
/-- the archive begun anew, so many blocks of it -/
def emp (h : am_H) (cd : Nat → Nat) (w : Nat) : Nat → am_H
  | 0 => am_sI h 0 1 (cd (c_ar w)) (Int32.ofNat 0)
  | k + 1 => am_sI (am_sI (emp h cd w k) 1 2 (cd (c_bk w k)) (Int32.ofNat 0)) 1 3 (cd (c_bk w k)) (Int32.ofNat 1)
theorem emp_fr : ∀ {k : Nat}, am_K (emp h cd w k) = am_K h ∧ am_N (emp h cd w k) = am_N h ∧ am_R (emp h cd w k) = am_R h ∧ am_C (emp h cd w k) = am_C h ∧ am_J (emp h cd w k) = am_J h ∧ am_A (emp h cd w k) = am_A h ∧ am_B (emp h cd w k) = am_B h ∧ am_U (emp h cd w k) = am_U h ∧ am_V (emp h cd w k) = am_V h
  | 0 => ⟨rfl, rfl, rfl, rfl, rfl, rfl, rfl, rfl, rfl⟩
  | k + 1 => by
    have := emp_fr (k := k)
    exact this
theorem car_s.t {h' : am_H} (s : car_s h cd bb w) (hK : am_K h' = am_K h) (hN : am_N h' = am_N h) (hR : am_R h' = am_R h) (hC : am_C h' = am_C h) : car_s h' cd bb w := by
  unfold car_s ce_s cb_s
  rw [hK, hN, hR, hC]
  exact s
theorem emp_s (s : car_s h cd bb w) {k : Nat} : car_s (emp h cd w k) cd bb w := s.t emp_fr.1 emp_fr.2.1 emp_fr.2.2.1 emp_fr.2.2.2.1
theorem ct_aempty (s : car_s h cd bb w) : am_Ct tt 1 [.ref (cd (c_ar w))] h (am_pV (fun h' => h' = emp h cd w 6) no_x) := by
  have key : ∀ (d i : Nat), d + i = 6 →
      am_Ev tt 1 7 [some (.ref (cd (c_ar w))), some (.int (Int32.ofNat i))] [] (emp h cd w i) (am_pV (fun h' => h' = emp h cd w 6) no_x) := by
    intro d
    induction d with
    | zero =>
      intro i e
      have : i = 6 := by omega
      subst this
      refine vc_1_7 tt _ _ _ _ _ ?_
      simp (disch := omega) only [qi_lt, qi_le, qi_eq, qi_nn, qi_in, qi_add, qi_l, ql_i, ql_lt, ql_le, ql_eq, ql_add, qc_lt, qc_eq, qc_ge, qc_gt, qc_le, true_and, and_true, and_self, true_or, or_true, false_or, or_false, false_and, and_false, not_true_eq_false, not_false_eq_true, Classical.not_not, true_implies, false_implies, implies_true, exists_eq_left, exists_eq_left', Option.some.injEq, reduceIte, Nat.reduceEqDiff, Nat.reduceLT, Nat.reduceLeDiff, Nat.reduceAdd, Nat.reduceSub, Nat.reduceMul, eq_self, ne_eq, and_imp, forall_const, reduceCtorEq, am_w, List.map_cons, List.map_nil, List.sum_cons, List.sum_nil, Value.category, Nat.zero_le, Nat.le_refl]
    | succ d ih =>
      intro i e
      obtain ⟨s1, s2, s3, s4, s5, s6, s7, s8, s9⟩ := emp_s s (k := i)
      obtain ⟨t1, t2, t3⟩ := s9 i (by omega)
      refine vc_1_7 tt _ _ _ _ _ ?_
      simp (disch := omega) only [s1, s5, s6, s7, t1, t2, qi_lt, qi_le, qi_eq, qi_nn, qi_in, qi_add, qi_l, ql_i, ql_lt, ql_le, ql_eq, ql_add, qc_lt, qc_eq, qc_ge, qc_gt, qc_le, true_and, and_true, and_self, true_or, or_true, false_or, or_false, false_and, and_false, not_true_eq_false, not_false_eq_true, Classical.not_not, true_implies, false_implies, implies_true, exists_eq_left, exists_eq_left', Option.some.injEq, reduceIte, Nat.reduceEqDiff, Nat.reduceLT, Nat.reduceLeDiff, Nat.reduceAdd, Nat.reduceSub, Nat.reduceMul, eq_self, ne_eq, and_imp, forall_const, reduceCtorEq, am_w, List.map_cons, List.map_nil, List.sum_cons, List.sum_nil, Value.category, Nat.zero_le, Nat.le_refl]
      refine ⟨fun z => by omega, fun _ => ⟨by omega, _, _, ct_bbegin t2, fun k e => ?_, fun _ _ z => z⟩⟩
      subst e
      exact ih (i + 1) (by omega)
  refine vc_1_0 tt _ h _ _ ?_
  exact ⟨s.1, key 6 0 (by omega)⟩
theorem ct_addEntry {n : Nat} {k : Int32} (s : car_s h cd bb w) (hn : am_I h 0 1 (cd (c_ar w)) = Int32.ofNat n) (hl : n ≤ 24) : am_Ct tt 2 [.ref (cd (c_ar w)), .int k] h (am_pV (fun h' => h' = if n < 24 then am_sI (en_b h (cd (c_en w n)) k) 0 1 (cd (c_ar w)) (Int32.ofNat (n + 1)) else h) no_x) := by
  obtain ⟨s1, s2, s3, s4, s5, s6, s7, s8, s9⟩ := s
  refine vc_2_0 tt _ _ h _ _ ?_
  by_cases c : n < 24
  · obtain ⟨t1, t2⟩ := s8 n c
    simp (disch := omega) only [s1, s2, s3, s4, hn, t1, t2.1, am_hs, qi_lt, qi_le, qi_eq, qi_nn, qi_in, qi_add, qi_l, ql_i, ql_lt, ql_le, ql_eq, ql_add, qc_lt, qc_eq, qc_ge, qc_gt, qc_le, true_and, and_true, and_self, true_or, or_true, false_or, or_false, false_and, and_false, not_true_eq_false, not_false_eq_true, Classical.not_not, true_implies, false_implies, implies_true, exists_eq_left, exists_eq_left', Option.some.injEq, reduceIte, Nat.reduceEqDiff, Nat.reduceLT, Nat.reduceLeDiff, Nat.reduceAdd, Nat.reduceSub, Nat.reduceMul, eq_self, ne_eq, and_imp, forall_const, reduceCtorEq, am_w, List.map_cons, List.map_nil, List.sum_cons, List.sum_nil, Value.category, Nat.zero_le, Nat.le_refl]
    refine ⟨fun z => by omega, fun _ => ⟨by omega, _, _, ct_ebegin t2.1, fun k e => ?_, fun _ _ z => z⟩⟩
    subst e
    have e1 : am_K (en_b h (cd (c_en w n)) ‹Int32›) (cd (c_ar w)) = 1 := s1
    have e2 : am_I (en_b h (cd (c_en w n)) ‹Int32›) 0 1 (cd (c_ar w)) = Int32.ofNat n := hn
    rw [e2, if_pos c, qi_add]
    exact ⟨e1, e1, rfl⟩
  · simp (disch := omega) only [s1, hn, am_hs, qi_lt, qi_le, qi_eq, qi_nn, qi_in, qi_add, qi_l, ql_i, ql_lt, ql_le, ql_eq, ql_add, qc_lt, qc_eq, qc_ge, qc_gt, qc_le, true_and, and_true, and_self, true_or, or_true, false_or, or_false, false_and, and_false, not_true_eq_false, not_false_eq_true, Classical.not_not, true_implies, false_implies, implies_true, exists_eq_left, exists_eq_left', Option.some.injEq, reduceIte, Nat.reduceEqDiff, Nat.reduceLT, Nat.reduceLeDiff, Nat.reduceAdd, Nat.reduceSub, Nat.reduceMul, eq_self, ne_eq, and_imp, forall_const, reduceCtorEq, am_w, List.map_cons, List.map_nil, List.sum_cons, List.sum_nil, Value.category, Nat.zero_le, Nat.le_refl]
    refine ⟨fun z => by rw [if_neg c], fun z => by omega⟩
end ARD
