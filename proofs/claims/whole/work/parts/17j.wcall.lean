/-! deps: 17i -/
/-! ===== the class's call: write ===== -/
/-! 111 yX9_write -/
theorem vc_111_0 (tt : Nat → Nat) (a0 : Nat) (h : am_H) (Q : Int32 → am_H → Prop) (Qx : String → am_H → Prop) (q :
  (am_K h a0 = 10 ∧ ∃ q1, am_R h 9 0 a0 = some q1 ∧
  (am_K h q1 = 1 ∧ ∃ (Q3 : Int32 → am_H → Prop) (X3 : String → am_H → Prop), am_Ct tt 7 [.ref q1] h (am_pI Q3 X3) ∧ (∀ x4 h2, Q3 x4 h2 →
   ((¬ x4 = (Int32.ofNat 0) →
    (am_K h2 a0 = 10 ∧ ∃ q5, am_R h2 9 0 a0 = some q5 ∧
    (am_K h2 q5 = 1 ∧ ∃ (Q7 : Int32 → am_H → Prop) (X7 : String → am_H → Prop), am_Ct tt 10 [.ref q5] h2 (am_pI Q7 X7) ∧ (∀ x8 h6, Q7 x8 h6 →
     ((x8 = (Int32.ofNat 0) →
      (am_K h6 a0 = 10 ∧ ∃ q9, am_R h6 9 4 a0 = some q9 ∧
      (am_K h6 a0 = 10 ∧ ∃ q10, am_R h6 9 0 a0 = some q10 ∧
      (am_K h6 a0 = 10 ∧ ∃ q11, am_R h6 9 3 a0 = some q11 ∧
      (am_K h6 q9 = 9 ∧ ∃ (Q13 : am_H → Prop) (X13 : String → am_H → Prop), am_Ct tt 86 [.ref q9, .ref q10, .ref q11] h6 (am_pV Q13 X13) ∧ (∀ h12, Q13 h12 →
       (am_K h12 a0 = 10 ∧ ∃ q14, am_R h12 9 3 a0 = some q14 ∧
       (am_K h12 q14 = 7 ∧
       (((am_I h12 6 2 q14) = (Int32.ofNat 0) →
        (am_K h12 a0 = 10 ∧ ∃ q15, am_R h12 9 2 a0 = some q15 ∧
        (am_K h12 a0 = 10 ∧ ∃ q16, am_R h12 9 3 a0 = some q16 ∧
        (am_K h12 a0 = 10 ∧
        (am_K h12 a0 = 10 ∧
        (am_K h12 a0 = 10 ∧ ∃ q17, am_R (am_sR h12 9 2 a0 (some q16)) 9 2 a0 = some q17 ∧
        (am_K h12 q17 = 7 ∧
        Q (am_I h12 6 1 q17) (am_sR (am_sR h12 9 2 a0 (some q16)) 9 3 a0 (some q15))))))))) ∧
       (¬ ((am_I h12 6 2 q14) = (Int32.ofNat 0)) →
        Q (-4 : Int32) h12))))) ∧ (∀ E18 h12, X13 E18 h12 → Qx E18 h12)))))) ∧
     (¬ (x8 = (Int32.ofNat 0)) →
      Q (-4 : Int32) h6))) ∧ (∀ E19 h6, X7 E19 h6 → Qx E19 h6)))) ∧
   (¬ (¬ x4 = (Int32.ofNat 0)) →
    Q (-3 : Int32) h2))) ∧ (∀ E20 h2, X3 E20 h2 → Qx E20 h2)))) :
  am_Ev tt 111 0 [some (.ref a0), none] [] h (am_pI Q Qx) := am_vc 35 [] q

section WK
variable {tt : Nat → Nat} {P : Nat → Prop} {h h' k : am_H} {cd : Nat → Nat} {bb : Nat → Nat → Nat} {wa wt : Nat} {S : sS}
/-- the writer's two links, and the tape emptied -/
def bh (cd : Nat → Nat) (wa wt : Nat) (h : am_H) : am_H := am_sI (am_sI (am_sR (am_sR h 8 2 (cd 20) (some (cd (c_ar wa)))) 8 3 (cd 20) (some (cd (c_tp (1 - wt))))) 6 1 (cd (c_tp (1 - wt))) (Int32.ofNat 0)) 6 2 (cd (c_tp (1 - wt))) (Int32.ofNat 0)
theorem cl_s.tr2 (s : cl_s h cd bb wa wt) (hK : am_K h' = am_K h) (hN : am_N h' = am_N h) (hC : am_C h' = am_C h) (hR : ∀ c f x, ¬ (c = 8 ∧ (f = 2 ∨ f = 3)) → am_R h' c f x = am_R h c f x) : cl_s h' cd bb wa wt := by
  unfold cl_s cx_s car_s ce_s cb_s tp_s cw_s cr_s at *
  simp (disch := omega) only [hK, hN, hC, hR]
  exact s
theorem bh_R {c f x : Nat} (z : ¬ (c = 8 ∧ (f = 2 ∨ f = 3))) : am_R (bh cd wa wt h) c f x = am_R h c f x := by
  unfold bh
  simp only [am_hs]
  rw [if_neg (by omega), if_neg (by omega)]
theorem RC.wrt (q : RC tt P h cd bb wa wt S) : WA tt (bh cd wa wt h) cd bb wa wt S.1 ∧ WT cd wt (bh cd wa wt h) 0 (fun _ => 0) := by
  obtain ⟨q1, q2, q3, q4, q5, q6, q7⟩ := q
  have w1 : 1 - wt < 2 := by omega
  have st := (q1.2.2.2.2.1 _ w1).2
  refine ⟨⟨q1.tr2 rfl rfl rfl (fun c f x z => bh_R z), q2.same q3.1 (fun c f x hc => ?_) rfl rfl (fun _ _ => rfl), q3, q6, ?_, ?_, 0, ?_, ?_, by omega⟩, ?_, ?_, fun _ j hj => by omega⟩
  · unfold bh
    simp only [am_hs]
    rw [if_neg (by omega), if_neg (by omega)]
  · unfold bh
    simp only [am_hs, true_and, and_true, and_self, true_or, or_true, false_or, or_false, false_and, and_false, not_true_eq_false, not_false_eq_true, Classical.not_not, true_implies, false_implies, implies_true, exists_eq_left, exists_eq_left', Option.some.injEq, reduceIte, Nat.reduceEqDiff, Nat.reduceLT, Nat.reduceLeDiff, Nat.reduceAdd, Nat.reduceSub, Nat.reduceMul, eq_self, ne_eq, and_imp, forall_const, reduceCtorEq, am_w, List.map_cons, List.map_nil, List.sum_cons, List.sum_nil, Value.category, Nat.zero_le, Nat.le_refl]
  · unfold bh
    simp only [am_hs, true_and, and_true, and_self, true_or, or_true, false_or, or_false, false_and, and_false, not_true_eq_false, not_false_eq_true, Classical.not_not, true_implies, false_implies, implies_true, exists_eq_left, exists_eq_left', Option.some.injEq, reduceIte, Nat.reduceEqDiff, Nat.reduceLT, Nat.reduceLeDiff, Nat.reduceAdd, Nat.reduceSub, Nat.reduceMul, eq_self, ne_eq, and_imp, forall_const, reduceCtorEq, am_w, List.map_cons, List.map_nil, List.sum_cons, List.sum_nil, Value.category, Nat.zero_le, Nat.le_refl]
  · unfold tp_s
    rw [bh_R (by omega)]
    exact st
  · unfold bh
    simp only [am_hs, true_and, and_true, and_self, true_or, or_true, false_or, or_false, false_and, and_false, not_true_eq_false, not_false_eq_true, Classical.not_not, true_implies, false_implies, implies_true, exists_eq_left, exists_eq_left', Option.some.injEq, reduceIte, Nat.reduceEqDiff, Nat.reduceLT, Nat.reduceLeDiff, Nat.reduceAdd, Nat.reduceSub, Nat.reduceMul, eq_self, ne_eq, and_imp, forall_const, reduceCtorEq, am_w, List.map_cons, List.map_nil, List.sum_cons, List.sum_nil, Value.category, Nat.zero_le, Nat.le_refl]
  · unfold bh
    simp only [am_hs, true_and, and_true, and_self, true_or, or_true, false_or, or_false, false_and, and_false, not_true_eq_false, not_false_eq_true, Classical.not_not, true_implies, false_implies, implies_true, exists_eq_left, exists_eq_left', Option.some.injEq, reduceIte, Nat.reduceEqDiff, Nat.reduceLT, Nat.reduceLeDiff, Nat.reduceAdd, Nat.reduceSub, Nat.reduceMul, eq_self, ne_eq, and_imp, forall_const, reduceCtorEq, am_w, List.map_cons, List.map_nil, List.sum_cons, List.sum_nil, Value.category, Nat.zero_le, Nat.le_refl]
  · unfold bh
    simp only [am_hs, true_and, and_true, and_self, true_or, or_true, false_or, or_false, false_and, and_false, not_true_eq_false, not_false_eq_true, Classical.not_not, true_implies, false_implies, implies_true, exists_eq_left, exists_eq_left', Option.some.injEq, reduceIte, Nat.reduceEqDiff, Nat.reduceLT, Nat.reduceLeDiff, Nat.reduceAdd, Nat.reduceSub, Nat.reduceMul, eq_self, ne_eq, and_imp, forall_const, reduceCtorEq, am_w, List.map_cons, List.map_nil, List.sum_cons, List.sum_nil, Value.category, Nat.zero_le, Nat.le_refl]
theorem ct_build (q : RC tt P h cd bb wa wt S) (w : wok S.1) : am_Ct tt 86 [.ref (cd 20), .ref (cd (c_ar wa)), .ref (cd (c_tp (1 - wt)))] h (am_pV (fun h' => WA tt h' cd bb wa wt S.1 ∧ wfr cd wt (bh cd wa wt h) h' ∧ WT cd wt h' (wN S.1) (wTf S.1)) no_x) := by
  obtain ⟨x, t⟩ := q.wrt
  have F := x.f
  have k20 : am_K h (cd 20) = 9 := F.1
  have kT : am_K h (cd (c_tp (1 - wt))) = 7 := F.2.2.2.2.2.2.2.2.2.1
  refine vc_86_0 tt _ _ _ h _ _ ?_
  simp (disch := omega) only [k20, kT, am_hs, qi_lt, qi_le, qi_eq, qi_nn, qi_in, qi_add, qi_l, ql_i, ql_lt, ql_le, ql_eq, ql_add, qc_lt, qc_eq, qc_ge, qc_gt, qc_le, true_and, and_true, and_self, true_or, or_true, false_or, or_false, false_and, and_false, not_true_eq_false, not_false_eq_true, Classical.not_not, true_implies, false_implies, implies_true, exists_eq_left, exists_eq_left', Option.some.injEq, reduceIte, Nat.reduceEqDiff, Nat.reduceLT, Nat.reduceLeDiff, Nat.reduceAdd, Nat.reduceSub, Nat.reduceMul, eq_self, ne_eq, and_imp, forall_const, reduceCtorEq, am_w, List.map_cons, List.map_nil, List.sum_cons, List.sum_nil, Value.category, Nat.zero_le, Nat.le_refl]
  exact ⟨_, _, ct_tempty kT, fun k e => by rw [e]; exact ct_build1 x w t, fun _ _ z => z⟩
theorem wfr.fr (p : wfr cd wt (bh cd wa wt h) h') (hP : ∀ a, P a → ∀ k, a ≠ cd k) : fr P h h' := by
  obtain ⟨p1, p2, p3, p4, p5, p6, p7, p8, p9, p10⟩ := p
  intro a ha
  have z := hP a ha
  refine ⟨by rw [p1]; rfl, by rw [p2]; rfl, by rw [p10 a (z _) (z _)]; rfl, by rw [p5]; rfl, by rw [p8 a (z _)]; rfl, fun c k => ?_, fun c k => by rw [p4]; rfl, fun c k => ?_⟩
  · rw [p9 c k a (fun e => z _ e.2) (fun e => z _ e.2)]
    unfold bh
    simp only [am_hs]
    rw [if_neg (fun e => z _ e.2.2), if_neg (fun e => z _ e.2.2)]
  · rw [p3]
    unfold bh
    simp only [am_hs]
    rw [if_neg (fun e => z _ e.2.2), if_neg (fun e => z _ e.2.2)]
/-- behind the building: all stands, but for the spare tape -/
theorem RC.bld (q : RC tt P h cd bb wa wt S) (x : WA tt h' cd bb wa wt S.1) (p : wfr cd wt (bh cd wa wt h) h') : okC tt P h cd bb wa wt S h' := by
  obtain ⟨q1, q2, q3, q4, q5, q6, q7⟩ := q
  have F := p.fr (P := P) (fun a ha => (q7 a ha).2.1)
  obtain ⟨p1, p2, p3, p4, p5, p6, p7, p8, p9, p10⟩ := p
  have s3 := q1.2.2.1
  have ws := q1.2.1
  have nT : cd (c_tp wt) ≠ cd (c_tp (1 - wt)) := fun e => by have := s3.1 _ _ e; unfold c_tp at this; omega
  have nB : cd (c_tb wt) ≠ cd (c_tb (1 - wt)) := fun e => by have := s3.1 _ _ e; unfold c_tb at this; omega
  have n2 : cd (c_tb wt) ≠ cd 22 := fun e => by have := s3.1 _ _ e; unfold c_tb at this; omega
  refine ⟨⟨x.1, x.2.1, q3, ⟨?_, q4.2.1, fun j hj => ?_⟩, ?_, x.2.2.2.1, fun a ha => ?_⟩, F, by rw [p6]; rfl, by rw [p7]; rfl, by rw [p2]; rfl⟩
  · rw [p9 _ _ _ (fun e => nT e.2) (by omega)]
    unfold bh
    simp only [am_hs]
    rw [if_neg (fun e => nT e.2.2), if_neg (fun e => nT e.2.2)]
    exact q4.1
  · rw [p10 _ nB n2]
    exact q4.2.2 j hj
  · rw [p9 _ _ _ (by omega) (by omega)]
    unfold bh
    simp only [am_hs]
    rw [if_neg (by omega), if_neg (by omega)]
    exact q5
  · rw [p1]
    exact q7 a ha
/-- the tapes change places -/
theorem cl_s.swT (s : cl_s h cd bb wa wt) : cl_s (am_sR (am_sR h 9 2 (cd 0) (some (cd (c_tp (1 - wt))))) 9 3 (cd 0) (some (cd (c_tp wt)))) cd bb wa (1 - wt) := by
  obtain ⟨s1, s2, s3, s4, s5, s6, s7⟩ := s
  have e11 : 1 - (1 - wt) = wt := by omega
  refine ⟨s1, by omega, s3, ?_, ?_, ?_, ?_⟩
  · obtain ⟨x1, x2, x3, x4, x5, x6, x7⟩ := s4
    unfold cx_s
    rw [e11]
    simp only [am_hs, true_and, and_true, and_self, true_or, or_true, false_or, or_false, false_and, and_false, not_true_eq_false, not_false_eq_true, Classical.not_not, true_implies, false_implies, implies_true, exists_eq_left, exists_eq_left', Option.some.injEq, reduceIte, Nat.reduceEqDiff, Nat.reduceLT, Nat.reduceLeDiff, Nat.reduceAdd, Nat.reduceSub, Nat.reduceMul, eq_self, ne_eq, and_imp, forall_const, reduceCtorEq, am_w, List.map_cons, List.map_nil, List.sum_cons, List.sum_nil, Value.category, Nat.zero_le, Nat.le_refl]
    exact ⟨x1, x2, x3, x6, x7⟩
  · unfold car_s ce_s cb_s tp_s at *
    simp only [am_hs, true_and, and_true, and_self, true_or, or_true, false_or, or_false, false_and, and_false, not_true_eq_false, not_false_eq_true, Classical.not_not, true_implies, false_implies, implies_true, exists_eq_left, exists_eq_left', Option.some.injEq, reduceIte, Nat.reduceEqDiff, Nat.reduceLT, Nat.reduceLeDiff, Nat.reduceAdd, Nat.reduceSub, Nat.reduceMul, eq_self, ne_eq, and_imp, forall_const, reduceCtorEq, am_w, List.map_cons, List.map_nil, List.sum_cons, List.sum_nil, Value.category, Nat.zero_le, Nat.le_refl]
    exact s5
  · unfold cw_s at *
    simp only [am_hs, true_and, and_true, and_self, true_or, or_true, false_or, or_false, false_and, and_false, not_true_eq_false, not_false_eq_true, Classical.not_not, true_implies, false_implies, implies_true, exists_eq_left, exists_eq_left', Option.some.injEq, reduceIte, Nat.reduceEqDiff, Nat.reduceLT, Nat.reduceLeDiff, Nat.reduceAdd, Nat.reduceSub, Nat.reduceMul, eq_self, ne_eq, and_imp, forall_const, reduceCtorEq, am_w, List.map_cons, List.map_nil, List.sum_cons, List.sum_nil, Value.category, Nat.zero_le, Nat.le_refl]
    exact s6
  · unfold cr_s at *
    simp only [am_hs, true_and, and_true, and_self, true_or, or_true, false_or, or_false, false_and, and_false, not_true_eq_false, not_false_eq_true, Classical.not_not, true_implies, false_implies, implies_true, exists_eq_left, exists_eq_left', Option.some.injEq, reduceIte, Nat.reduceEqDiff, Nat.reduceLT, Nat.reduceLeDiff, Nat.reduceAdd, Nat.reduceSub, Nat.reduceMul, eq_self, ne_eq, and_imp, forall_const, reduceCtorEq, am_w, List.map_cons, List.map_nil, List.sum_cons, List.sum_nil, Value.category, Nat.zero_le, Nat.le_refl]
    exact s7
theorem ct_write (q : RC tt P h cd bb wa wt S) : am_Ct tt 111 [.ref (cd 0)] h (am_pI (fun r h' => r = (f_write S).1 ∧ ∃ wt', okC tt P h cd bb wa wt' (f_write S).2 h') no_x) := by
  have q' := q
  obtain ⟨⟨s1, s2, s3, s4, s5, s6, s7⟩, v, q3, q4, q5, q6, q7⟩ := q
  have cl := q'.1
  obtain ⟨x1, x2, x3, x4, x5, x6, x7⟩ := s4
  have sa := (s5 wa s1).1
  have w1 : 1 - wt < 2 := by omega
  refine vc_111_0 tt _ h _ _ ⟨x1, _, x2, sa.1, _, _, ct_isReady sa v q3, fun r k e => ?_, fun _ _ z => z⟩
  obtain ⟨ek, e⟩ := e
  subst k
  rcases e with ⟨rfl, hr⟩ | ⟨rfl, hr⟩
  · refine ⟨fun _ => ⟨x1, _, x2, sa.1, _, _, ct_overfull sa v q3, fun r k e => ?_, fun _ _ z => z⟩, fun z => absurd (by decide) z⟩
    obtain ⟨ek, e⟩ := e
    subst k
    rcases e with ⟨rfl, b, hb, ho⟩ | ⟨rfl, ho⟩
    · refine ⟨fun z => absurd z (by decide), fun _ => ?_⟩
      rw [f_wr4 hr (fun z => by have := z b hb; omega)]
      exact ⟨rfl, wt, okC.rf q'⟩
    · refine ⟨fun _ => ?_, fun z => absurd rfl z⟩
      have w : wok S.1 := ⟨hr, ho⟩
      refine ⟨x1, _, x6, x1, _, x2, x1, _, x5, s6.1, _, _, ct_build q' w, fun k e => ?_, fun _ _ z => z⟩
      obtain ⟨y, p, t⟩ := e
      have ok := q'.bld y p
      obtain ⟨y1, y2, y3, y4, y5, y6, y7⟩ := y.1.2.2.2.1
      have kT := ((y.1.2.2.2.2.1 _ w1).2).1
      refine ⟨y1, _, y5, kT, fun z => ?_, fun z => ?_⟩
      · have n5 : wN S.1 ≤ 5000 := by
          rw [t.2.1] at z
          split at z
          · assumption
          · exact absurd z (by decide)
        rw [f_wr w, if_pos n5]
        have t1 := t.1
        rw [if_pos n5] at t1
        refine ⟨y1, _, y4, y1, _, y5, y1, y1, y1, _, by simp only [am_hs, true_and, and_true, and_self, true_or, or_true, false_or, or_false, false_and, and_false, not_true_eq_false, not_false_eq_true, Classical.not_not, true_implies, false_implies, implies_true, exists_eq_left, exists_eq_left', Option.some.injEq, reduceIte, Nat.reduceEqDiff, Nat.reduceLT, Nat.reduceLeDiff, Nat.reduceAdd, Nat.reduceSub, Nat.reduceMul, eq_self, ne_eq, and_imp, forall_const, reduceCtorEq, am_w, List.map_cons, List.map_nil, List.sum_cons, List.sum_nil, Value.category, Nat.zero_le, Nat.le_refl], kT, t1, 1 - wt, ?_⟩
        obtain ⟨⟨r1, r2, r3, r4, r5, r6, r7⟩, f1, f2, f3, f4⟩ := ok
        refine ⟨⟨r1.swT, r2, r3, ⟨t1, n5, fun j hj => ⟨t.2.2 n5 j hj, wTf_8⟩⟩, r5, r6, r7⟩, fun a ha => ?_, f2, f3, f4⟩
        have na := (q7 a ha).2.1 0
        exact ((f1 a ha).tr (fr1.sR na)).tr (fr1.sR na)
      · have n5 : ¬ wN S.1 ≤ 5000 := by
          intro n5
          rw [t.2.1, if_pos n5] at z
          exact z rfl
        rw [f_wr w, if_neg n5]
        exact ⟨rfl, wt, ok⟩
  · refine ⟨fun z => absurd rfl z, fun _ => ?_⟩
    rw [f_wr3 hr]
    exact ⟨rfl, wt, okC.rf q'⟩
end WK
