/-! deps: 15d -/
/-! ===== the class's calls: set, of, entry, clear, cut, type, seal ===== -/
/-! 121 yX9_type -/
theorem vc_121_0 (tt : Nat → Nat) (a0 : Nat) (a1 : Int64) (a3 : Int32) (h : am_H) (Q : Int32 → am_H → Prop) (Qx : String → am_H → Prop) (q :
  ((a3 < (Int32.ofNat 0) →
   Q (-2 : Int32) h) ∧
  (¬ (a3 < (Int32.ofNat 0)) →
   ((a3 ≤ (Int32.ofNat 8) →
    (am_K h a0 = 10 ∧ ∃ q1, am_R h 9 2 a0 = some q1 ∧
    (am_K h q1 = 7 ∧
    ((((am_I h 6 1 q1) + a3) ≤ (Int32.ofNat 5000) →
     ((¬ a3 = (Int32.ofNat 0) →
      am_Ev tt 121 47 [some (.ref a0), some (.long a1), none, none, some (.int (a3 - (Int32.ofNat 1)))] [] h (am_pI Q Qx)) ∧
     (¬ (¬ a3 = (Int32.ofNat 0)) →
      (am_K h a0 = 10 ∧ ∃ q2, am_R h 9 2 a0 = some q2 ∧
      (am_K h q2 = 7 ∧ ∃ (Q4 : am_H → Prop) (X4 : String → am_H → Prop), am_Ct tt 66 [.ref q2] h (am_pV Q4 X4) ∧ (∀ h3, Q4 h3 →
       am_Ev tt 121 47 [some (.ref a0), some (.long a1), none, none, some (.int (a3 - (Int32.ofNat 1)))] [] h3 (am_pI Q Qx)) ∧ (∀ E5 h3, X4 E5 h3 → Qx E5 h3)))))) ∧
    (¬ (((am_I h 6 1 q1) + a3) ≤ (Int32.ofNat 5000)) →
     Q (-4 : Int32) h))))) ∧
   (¬ (a3 ≤ (Int32.ofNat 8)) →
    Q (-2 : Int32) h))))) :
  am_Ev tt 121 0 [some (.ref a0), some (.long a1), none, some (.int a3), none] [] h (am_pI Q Qx) := am_vc 24 [(47, [true, true, false, false, true])] q
theorem vc_121_47 (tt : Nat → Nat) (a0 : Nat) (a1 : Int64) (a4 : Int32) (h : am_H) (Q : Int32 → am_H → Prop) (Qx : String → am_H → Prop) (q :
  ((a4 < (Int32.ofNat 0) →
   (am_K h a0 = 10 ∧ ∃ q1, am_R h 9 2 a0 = some q1 ∧
   (am_K h q1 = 7 ∧
   Q (am_I h 6 1 q1) h))) ∧
  (¬ (a4 < (Int32.ofNat 0)) →
   (am_K h a0 = 10 ∧ ∃ q2, am_R h 9 2 a0 = some q2 ∧
   (am_K h q2 = 7 ∧ ∃ (Q4 : am_H → Prop) (X4 : String → am_H → Prop), am_Ct tt 68 [.ref q2, .int (((a1).toUInt64 >>> ((((Int32.ofNat 8) * a4)).toInt64.toUInt64 &&& Int64.toUInt64 63)).toInt64).toInt32] h (am_pV Q4 X4) ∧ (∀ h3, Q4 h3 →
    am_Ev tt 121 47 [some (.ref a0), some (.long a1), none, none, some (.int (a4 + (-1 : Int32)))] [] h3 (am_pI Q Qx)) ∧ (∀ E5 h3, X4 E5 h3 → Qx E5 h3)))))) :
  am_Ev tt 121 47 [some (.ref a0), some (.long a1), none, none, some (.int a4)] [] h (am_pI Q Qx) := am_vc 16 [(47, [true, true, false, false, true])] q

/-! 122 yX9_cut -/
theorem vc_122_0 (tt : Nat → Nat) (a0 : Nat) (a1 : Int32) (h : am_H) (Q : Int32 → am_H → Prop) (Qx : String → am_H → Prop) (q :
  ((a1 < (Int32.ofNat 0) →
   Q (-2 : Int32) h) ∧
  (¬ (a1 < (Int32.ofNat 0)) →
   (am_K h a0 = 10 ∧ ∃ q1, am_R h 9 2 a0 = some q1 ∧
   (am_K h q1 = 7 ∧
   ((a1 ≤ (am_I h 6 1 q1) →
    (am_K h a0 = 10 ∧ ∃ q2, am_R h 9 2 a0 = some q2 ∧
    (am_K h q2 = 7 ∧
    Q a1 (am_sI h 6 1 q2 a1)))) ∧
   (¬ (a1 ≤ (am_I h 6 1 q1)) →
    Q (-2 : Int32) h))))))) :
  am_Ev tt 122 0 [some (.ref a0), some (.int a1)] [] h (am_pI Q Qx) := am_vc 15 [] q

/-! 123 yX9_seal -/
theorem vc_123_0 (tt : Nat → Nat) (a0 : Nat) (a1 : Int32) (h : am_H) (Q : Int32 → am_H → Prop) (Qx : String → am_H → Prop) (q :
  ((a1 = (Int32.ofNat 0) →
   (am_K h a0 = 10 ∧ ∃ q1, am_R h 9 2 a0 = some q1 ∧
   (am_K h q1 = 7 ∧
   (((am_I h 6 1 q1) < (Int32.ofNat 32) →
    Q (-3 : Int32) h) ∧
   (¬ ((am_I h 6 1 q1) < (Int32.ofNat 32)) →
    ((¬ a1 = (Int32.ofNat 1) →
     ((¬ a1 = (Int32.ofNat 1) →
      (am_K h a0 = 10 ∧ ∃ q2, am_R h 9 2 a0 = some q2 ∧
      (am_K h q2 = 7 ∧ ∃ (Q4 : am_H → Prop) (X4 : String → am_H → Prop), am_Ct tt 78 [.ref q2] h (am_pV Q4 X4) ∧ (∀ h3, Q4 h3 →
       Q (Int32.ofNat 1) h3) ∧ (∀ E5 h3, X4 E5 h3 → Qx E5 h3)))) ∧
     (¬ (¬ a1 = (Int32.ofNat 1)) →
      (am_K h a0 = 10 ∧ ∃ q6, am_R h 9 2 a0 = some q6 ∧
      (am_K h q6 = 7 ∧ ∃ (Q8 : am_H → Prop) (X8 : String → am_H → Prop), am_Ct tt 79 [.ref q6] h (am_pV Q8 X8) ∧ (∀ h7, Q8 h7 →
       (am_K h7 a0 = 10 ∧ ∃ q9, am_R h7 9 2 a0 = some q9 ∧
       (am_K h7 q9 = 7 ∧ ∃ (Q11 : am_H → Prop) (X11 : String → am_H → Prop), am_Ct tt 78 [.ref q9] h7 (am_pV Q11 X11) ∧ (∀ h10, Q11 h10 →
        Q (Int32.ofNat 1) h10) ∧ (∀ E12 h10, X11 E12 h10 → Qx E12 h10)))) ∧ (∀ E13 h7, X8 E13 h7 → Qx E13 h7)))))) ∧
    (¬ (¬ a1 = (Int32.ofNat 1)) →
     (am_K h a0 = 10 ∧ ∃ q14, am_R h 9 2 a0 = some q14 ∧
     (am_K h q14 = 7 ∧ ∃ (Q16 : Int32 → am_H → Prop) (X16 : String → am_H → Prop), am_Ct tt 75 [.ref q14] h (am_pI Q16 X16) ∧ (∀ x17 h15, Q16 x17 h15 →
      ((¬ x17 = (Int32.ofNat 0) →
       ((¬ a1 = (Int32.ofNat 1) →
        (am_K h15 a0 = 10 ∧ ∃ q18, am_R h15 9 2 a0 = some q18 ∧
        (am_K h15 q18 = 7 ∧ ∃ (Q20 : am_H → Prop) (X20 : String → am_H → Prop), am_Ct tt 78 [.ref q18] h15 (am_pV Q20 X20) ∧ (∀ h19, Q20 h19 →
         Q (Int32.ofNat 1) h19) ∧ (∀ E21 h19, X20 E21 h19 → Qx E21 h19)))) ∧
       (¬ (¬ a1 = (Int32.ofNat 1)) →
        (am_K h15 a0 = 10 ∧ ∃ q22, am_R h15 9 2 a0 = some q22 ∧
        (am_K h15 q22 = 7 ∧ ∃ (Q24 : am_H → Prop) (X24 : String → am_H → Prop), am_Ct tt 79 [.ref q22] h15 (am_pV Q24 X24) ∧ (∀ h23, Q24 h23 →
         (am_K h23 a0 = 10 ∧ ∃ q25, am_R h23 9 2 a0 = some q25 ∧
         (am_K h23 q25 = 7 ∧ ∃ (Q27 : am_H → Prop) (X27 : String → am_H → Prop), am_Ct tt 78 [.ref q25] h23 (am_pV Q27 X27) ∧ (∀ h26, Q27 h26 →
          Q (Int32.ofNat 1) h26) ∧ (∀ E28 h26, X27 E28 h26 → Qx E28 h26)))) ∧ (∀ E29 h23, X24 E29 h23 → Qx E29 h23)))))) ∧
      (¬ (¬ x17 = (Int32.ofNat 0)) →
       Q (-3 : Int32) h15))) ∧ (∀ E30 h15, X16 E30 h15 → Qx E30 h15)))))))))) ∧
  (¬ (a1 = (Int32.ofNat 0)) →
   ((a1 = (Int32.ofNat 1) →
    (am_K h a0 = 10 ∧ ∃ q31, am_R h 9 2 a0 = some q31 ∧
    (am_K h q31 = 7 ∧
    (((am_I h 6 1 q31) < (Int32.ofNat 32) →
     Q (-3 : Int32) h) ∧
    (¬ ((am_I h 6 1 q31) < (Int32.ofNat 32)) →
     ((¬ a1 = (Int32.ofNat 1) →
      ((¬ a1 = (Int32.ofNat 1) →
       (am_K h a0 = 10 ∧ ∃ q32, am_R h 9 2 a0 = some q32 ∧
       (am_K h q32 = 7 ∧ ∃ (Q34 : am_H → Prop) (X34 : String → am_H → Prop), am_Ct tt 78 [.ref q32] h (am_pV Q34 X34) ∧ (∀ h33, Q34 h33 →
        Q (Int32.ofNat 1) h33) ∧ (∀ E35 h33, X34 E35 h33 → Qx E35 h33)))) ∧
      (¬ (¬ a1 = (Int32.ofNat 1)) →
       (am_K h a0 = 10 ∧ ∃ q36, am_R h 9 2 a0 = some q36 ∧
       (am_K h q36 = 7 ∧ ∃ (Q38 : am_H → Prop) (X38 : String → am_H → Prop), am_Ct tt 79 [.ref q36] h (am_pV Q38 X38) ∧ (∀ h37, Q38 h37 →
        (am_K h37 a0 = 10 ∧ ∃ q39, am_R h37 9 2 a0 = some q39 ∧
        (am_K h37 q39 = 7 ∧ ∃ (Q41 : am_H → Prop) (X41 : String → am_H → Prop), am_Ct tt 78 [.ref q39] h37 (am_pV Q41 X41) ∧ (∀ h40, Q41 h40 →
         Q (Int32.ofNat 1) h40) ∧ (∀ E42 h40, X41 E42 h40 → Qx E42 h40)))) ∧ (∀ E43 h37, X38 E43 h37 → Qx E43 h37)))))) ∧
     (¬ (¬ a1 = (Int32.ofNat 1)) →
      (am_K h a0 = 10 ∧ ∃ q44, am_R h 9 2 a0 = some q44 ∧
      (am_K h q44 = 7 ∧ ∃ (Q46 : Int32 → am_H → Prop) (X46 : String → am_H → Prop), am_Ct tt 75 [.ref q44] h (am_pI Q46 X46) ∧ (∀ x47 h45, Q46 x47 h45 →
       ((¬ x47 = (Int32.ofNat 0) →
        ((¬ a1 = (Int32.ofNat 1) →
         (am_K h45 a0 = 10 ∧ ∃ q48, am_R h45 9 2 a0 = some q48 ∧
         (am_K h45 q48 = 7 ∧ ∃ (Q50 : am_H → Prop) (X50 : String → am_H → Prop), am_Ct tt 78 [.ref q48] h45 (am_pV Q50 X50) ∧ (∀ h49, Q50 h49 →
          Q (Int32.ofNat 1) h49) ∧ (∀ E51 h49, X50 E51 h49 → Qx E51 h49)))) ∧
        (¬ (¬ a1 = (Int32.ofNat 1)) →
         (am_K h45 a0 = 10 ∧ ∃ q52, am_R h45 9 2 a0 = some q52 ∧
         (am_K h45 q52 = 7 ∧ ∃ (Q54 : am_H → Prop) (X54 : String → am_H → Prop), am_Ct tt 79 [.ref q52] h45 (am_pV Q54 X54) ∧ (∀ h53, Q54 h53 →
          (am_K h53 a0 = 10 ∧ ∃ q55, am_R h53 9 2 a0 = some q55 ∧
          (am_K h53 q55 = 7 ∧ ∃ (Q57 : am_H → Prop) (X57 : String → am_H → Prop), am_Ct tt 78 [.ref q55] h53 (am_pV Q57 X57) ∧ (∀ h56, Q57 h56 →
           Q (Int32.ofNat 1) h56) ∧ (∀ E58 h56, X57 E58 h56 → Qx E58 h56)))) ∧ (∀ E59 h53, X54 E59 h53 → Qx E59 h53)))))) ∧
       (¬ (¬ x47 = (Int32.ofNat 0)) →
        Q (-3 : Int32) h45))) ∧ (∀ E60 h45, X46 E60 h45 → Qx E60 h45)))))))))) ∧
   (¬ (a1 = (Int32.ofNat 1)) →
    Q (-2 : Int32) h))))) :
  am_Ev tt 123 0 [some (.ref a0), some (.int a1)] [] h (am_pI Q Qx) := am_vc 30 [] q

/-! 125 yX9_clear -/
theorem vc_125_0 (tt : Nat → Nat) (a0 : Nat) (h : am_H) (Q : Int32 → am_H → Prop) (Qx : String → am_H → Prop) (q :
  (am_K h a0 = 10 ∧ ∃ q1, am_R h 9 0 a0 = some q1 ∧
  (am_K h q1 = 1 ∧
  (am_K h a0 = 10 ∧ ∃ q2, am_R h 9 0 a0 = some q2 ∧
  (am_K h q2 = 1 ∧ ∃ (Q4 : am_H → Prop) (X4 : String → am_H → Prop), am_Ct tt 1 [.ref q2] h (am_pV Q4 X4) ∧ (∀ h3, Q4 h3 →
   Q (am_I h 0 1 q1) h3) ∧ (∀ E5 h3, X4 E5 h3 → Qx E5 h3)))))) :
  am_Ev tt 125 0 [some (.ref a0), none] [] h (am_pI Q Qx) := am_vc 11 [] q

section PD
variable {tt : Nat → Nat} {P : Nat → Prop} {h h' : am_H} {cd : Nat → Nat} {bb : Nat → Nat → Nat} {wa wt : Nat} {S : sS}
theorem qi_ti {a : Nat} (h : a < 2147483648) : (Int32.ofNat a).toInt = (a : Int) := Int32.toInt_ofNat_of_lt h
theorem ct_setAnti {e z : Nat} {v : Int64} (s : am_K h e = 5) (s3 : am_I h 4 3 e = Int32.ofNat z) (hz : z ≤ 60000) : am_Ct tt 110 [.ref e, .long v] h (am_pI (fun r h' => (v = Int64.ofNat 0 ∧ r = Int32.ofNat 1 ∧ h' = am_sI h 4 6 e (b01 false)) ∨ (v = Int64.ofNat 1 ∧ 0 < z ∧ r = -3 ∧ h' = h) ∨ (v = Int64.ofNat 1 ∧ z = 0 ∧ r = Int32.ofNat 1 ∧ h' = am_sI h 4 6 e (b01 true)) ∨ (¬ v = Int64.ofNat 0 ∧ ¬ v = Int64.ofNat 1 ∧ r = -2 ∧ h' = h)) no_x) := by
  refine vc_110_0 tt _ _ h _ _ ?_
  simp (disch := omega) only [s, s3, am_hs, qi_lt, qi_le, qi_eq, qi_nn, qi_in, qi_add, qi_l, ql_i, ql_lt, ql_le, ql_eq, ql_add, qc_lt, qc_eq, qc_ge, qc_gt, qc_le, true_and, and_true, and_self, true_or, or_true, false_or, or_false, false_and, and_false, not_true_eq_false, not_false_eq_true, Classical.not_not, true_implies, false_implies, implies_true, exists_eq_left, exists_eq_left', Option.some.injEq, reduceIte, Nat.reduceEqDiff, Nat.reduceLT, Nat.reduceLeDiff, Nat.reduceAdd, Nat.reduceSub, Nat.reduceMul, eq_self, ne_eq, and_imp, forall_const, reduceCtorEq, am_w, List.map_cons, List.map_nil, List.sum_cons, List.sum_nil, Value.category, Nat.zero_le, Nat.le_refl]
  have e0 : b01 false = Int32.ofNat 0 := rfl
  have e1 : b01 true = Int32.ofNat 1 := rfl
  have ne : ¬ Int64.ofNat 0 = Int64.ofNat 1 := by decide
  have ne' : ¬ Int64.ofNat 1 = Int64.ofNat 0 := by decide
  rw [e0, e1]
  by_cases c0 : v = Int64.ofNat 0
  · subst c0
    simp only [ne, true_and, and_true, and_self, true_or, or_true, false_or, or_false, false_and, and_false, not_true_eq_false, not_false_eq_true, Classical.not_not, true_implies, false_implies, implies_true, exists_eq_left, exists_eq_left', Option.some.injEq, reduceIte, Nat.reduceEqDiff, Nat.reduceLT, Nat.reduceLeDiff, Nat.reduceAdd, Nat.reduceSub, Nat.reduceMul, eq_self, ne_eq, and_imp, forall_const, reduceCtorEq, am_w, List.map_cons, List.map_nil, List.sum_cons, List.sum_nil, Value.category, Nat.zero_le, Nat.le_refl]
  · by_cases c1 : v = Int64.ofNat 1
    · subst c1
      simp only [ne', true_and, and_true, and_self, true_or, or_true, false_or, or_false, false_and, and_false, not_true_eq_false, not_false_eq_true, Classical.not_not, true_implies, false_implies, implies_true, exists_eq_left, exists_eq_left', Option.some.injEq, reduceIte, Nat.reduceEqDiff, Nat.reduceLT, Nat.reduceLeDiff, Nat.reduceAdd, Nat.reduceSub, Nat.reduceMul, eq_self, ne_eq, and_imp, forall_const, reduceCtorEq, am_w, List.map_cons, List.map_nil, List.sum_cons, List.sum_nil, Value.category, Nat.zero_le, Nat.le_refl]
      exact ⟨fun w => Or.inr (by omega), fun w => by omega⟩
    · simp only [c0, c1, true_and, and_true, and_self, true_or, or_true, false_or, or_false, false_and, and_false, not_true_eq_false, not_false_eq_true, Classical.not_not, true_implies, false_implies, implies_true, exists_eq_left, exists_eq_left', Option.some.injEq, reduceIte, Nat.reduceEqDiff, Nat.reduceLT, Nat.reduceLeDiff, Nat.reduceAdd, Nat.reduceSub, Nat.reduceMul, eq_self, ne_eq, and_imp, forall_const, reduceCtorEq, am_w, List.map_cons, List.map_nil, List.sum_cons, List.sum_nil, Value.category, Nat.zero_le, Nat.le_refl]
theorem ct_set (q : RC tt P h cd bb wa wt S) {x y : Int32} {v : Int64} : am_Ct tt 109 [.ref (cd 0), .int x, .int y, .long v] h (am_pI (fun r h' => r = (f_set S x y v).1 ∧ okC tt P h cd bb wa wt (f_set S x y v).2 h') no_x) := by
  have q' := q
  obtain ⟨⟨s1, s2, s3, s4, s5, s6, s7⟩, ⟨v1, v2, v3⟩, q3, q4, q5, q6, q7⟩ := q
  obtain ⟨x1, x2, x3, x4, x5, x6, x7⟩ := s4
  have sa := (s5 wa s1).1
  have n24 := q3.1
  refine vc_109_0 tt _ _ _ _ h _ _ ?_
  simp (disch := omega) only [x1, x2, sa.1, am_hs, qi_lt, qi_le, qi_eq, qi_nn, qi_in, qi_add, qi_l, ql_i, ql_lt, ql_le, ql_eq, ql_add, qc_lt, qc_eq, qc_ge, qc_gt, qc_le, true_and, and_true, and_self, true_or, or_true, false_or, or_false, false_and, and_false, not_true_eq_false, not_false_eq_true, Classical.not_not, true_implies, false_implies, implies_true, exists_eq_left, exists_eq_left', Option.some.injEq, reduceIte, Nat.reduceEqDiff, Nat.reduceLT, Nat.reduceLeDiff, Nat.reduceAdd, Nat.reduceSub, Nat.reduceMul, eq_self, ne_eq, and_imp, forall_const, reduceCtorEq, am_w, List.map_cons, List.map_nil, List.sum_cons, List.sum_nil, Value.category, Nat.zero_le, Nat.le_refl]
  refine ⟨_, _, ct_find sa v1 q3.1, ⟨fun o k e => ?_, fun k e => ?_⟩, fun _ _ z => z⟩
  · obtain ⟨ek, e⟩ := e
    subst k
    rcases e with ⟨i, hi, rfl, e⟩ | ⟨e, _⟩
    · cases e
      obtain ⟨t1, t2⟩ := sa.2.2.2.2.2.2.2.1 i (by omega)
      obtain ⟨u1, u2, u3, u4, u5, u6, u7, u8⟩ := t2
      obtain ⟨y1, y2, y3, y4, y5, y6, y7, y8, y9, y10, y11, y12⟩ := v2 i hi
      obtain ⟨g1, g2, g3, g4⟩ := q3.2.1 i hi
      rcases qi_cases y with hy | ⟨b, hb, rfl⟩
      · have fE : f_set S (Int32.ofNat i) y v = (-2, S) := by rw [f_set, ixo_n hi (by omega), ixo_neg hy]
        rw [fE]
        exact ⟨fun _ => ⟨rfl, okC.rf q'⟩, fun w => absurd hy w⟩
      · by_cases hb5 : b < 5
        · have ix : ixo 5 (Int32.ofNat b) = some b := ixo_n hb5 (by omega)
          have upd : ∀ (h' : am_H) (e' : sE), am_K h' = am_K h → am_N h' = am_N h → am_R h' = am_R h → am_C h' = am_C h → (∀ c k a, ¬ (c = 4 ∧ a = cd (c_en wa i)) → am_I h' c k a = am_I h c k a) → (∀ c k a, ¬ (c = 4 ∧ a = cd (c_en wa i)) → am_J h' c k a = am_J h c k a) → am_A h' = am_A h → am_B h' = am_B h → am_U h' = am_U h → am_V h' = am_V h → ce_v h' (cd (c_en wa i)) (cd (c_un wa i)) (bb wa i) e' (b_kn (a_B S.1 (e_hm e')) = true) → wfE e' → e_sz e' = e_sz (a_E S.1 i) → e_hm e' = e_hm (a_E S.1 i) → okC tt P h cd bb wa wt (put_E S i e') h' := by
            intro h' e' k1 k2 k3 k4 k5 k6 k7 k8 k9 k10 k11 k12 k13 k14
            have up := q'.upE hi k1 k2 k3 k4 k5 k6 (fun a _ _ => by rw [k7]) k8 k11 k12 (by rw [k13, k14]; exact Nat.le_refl _)
            exact ⟨up.1, up.2, k9, k10, k2⟩
          have c5 : b = 0 ∨ b = 1 ∨ b = 2 ∨ b = 3 ∨ b = 4 := by omega
          have i4 : ∀ {c k a f : Nat} {v : Int32}, ¬ (c = 4 ∧ a = cd (c_en wa i)) → am_I (am_sI h 4 f (cd (c_en wa i)) v) c k a = am_I h c k a := fun z => by simp only [am_hs]; rw [if_neg (fun w => z ⟨w.1, w.2.2⟩)]
          rcases c5 with rfl | rfl | rfl | rfl | rfl
          · have fE : f_set S (Int32.ofNat i) (Int32.ofNat 0) v = if v = Int64.ofNat 0 then (Int32.ofNat 1, put_E S i (e_setA (a_E S.1 i) false)) else if v = Int64.ofNat 1 then (if 0 < e_sz (a_E S.1 i) then (-3, S) else (Int32.ofNat 1, put_E S i (e_setA (a_E S.1 i) true))) else (-2, S) := by rw [f_set, ixo_n hi (by omega), ix]; try rfl
            simp (disch := omega) only [qi_lt, qi_le, qi_eq, qi_nn, qi_in, qi_add, qi_l, ql_i, ql_lt, ql_le, ql_eq, ql_add, qc_lt, qc_eq, qc_ge, qc_gt, qc_le, true_and, and_true, and_self, true_or, or_true, false_or, or_false, false_and, and_false, not_true_eq_false, not_false_eq_true, Classical.not_not, true_implies, false_implies, implies_true, exists_eq_left, exists_eq_left', Option.some.injEq, reduceIte, Nat.reduceEqDiff, Nat.reduceLT, Nat.reduceLeDiff, Nat.reduceAdd, Nat.reduceSub, Nat.reduceMul, eq_self, ne_eq, and_imp, forall_const, reduceCtorEq, am_w, List.map_cons, List.map_nil, List.sum_cons, List.sum_nil, Value.category, Nat.zero_le, Nat.le_refl]
            refine ⟨_, _, ct_setAnti u1 y4 (by omega), fun r k e => ?_, fun _ _ z => z⟩
            have setA : ∀ b, okC tt P h cd bb wa wt (put_E S i (e_setA (a_E S.1 i) b)) (am_sI h 4 6 (cd (c_en wa i)) (b01 b)) := by
              intro b
              refine upd _ _ rfl rfl rfl rfl (fun _ _ _ z => i4 z) (fun _ _ _ _ => rfl) rfl rfl rfl rfl ?_ ⟨g1, g2, g3, g4⟩ rfl rfl
              refine ⟨?_, ?_, ?_, ?_, ?_, ?_, ?_, ?_, ?_, ?_, ?_, ?_⟩ <;> (try simp only [am_hs, true_and, and_true, and_self, true_or, or_true, false_or, or_false, false_and, and_false, not_true_eq_false, not_false_eq_true, Classical.not_not, true_implies, false_implies, implies_true, exists_eq_left, exists_eq_left', Option.some.injEq, reduceIte, Nat.reduceEqDiff, Nat.reduceLT, Nat.reduceLeDiff, Nat.reduceAdd, Nat.reduceSub, Nat.reduceMul, eq_self, ne_eq, and_imp, forall_const, reduceCtorEq, am_w, List.map_cons, List.map_nil, List.sum_cons, List.sum_nil, Value.category, Nat.zero_le, Nat.le_refl]) <;> first | exact y1 | exact y2 | exact y3 | exact y4 | exact y5 | exact y6 | exact y7 | exact y8 | exact y9 | exact y10 | exact y11 | exact y12 | rfl
            rcases e with ⟨e1, e2, e3⟩ | ⟨e1, e2, e3, e4⟩ | ⟨e1, e2, e3, e4⟩ | ⟨e1, e2, e3, e4⟩
            · subst e1 e2 e3; rw [fE, if_pos rfl]; exact ⟨rfl, setA false⟩
            · subst e1 e3 e4; rw [fE, if_neg (by decide), if_pos rfl, if_pos e2]; exact ⟨rfl, okC.rf q'⟩
            · subst e1 e3 e4; rw [fE, if_neg (by decide), if_pos rfl, if_neg (by omega)]; exact ⟨rfl, setA true⟩
            · subst e3 e4; rw [fE, if_neg e1, if_neg e2]; exact ⟨rfl, okC.rf q'⟩
          · have fE : f_set S (Int32.ofNat i) (Int32.ofNat 1) v = (Int32.ofNat 1, put_E S i (e_setT (a_E S.1 i) (some v))) := by rw [f_set, ixo_n hi (by omega), ix]; try rfl
            simp (disch := omega) only [qi_ti, u1, qi_lt, qi_le, qi_eq, qi_nn, qi_in, qi_add, qi_l, ql_i, ql_lt, ql_le, ql_eq, ql_add, qc_lt, qc_eq, qc_ge, qc_gt, qc_le, true_and, and_true, and_self, true_or, or_true, false_or, or_false, false_and, and_false, not_true_eq_false, not_false_eq_true, Classical.not_not, true_implies, false_implies, implies_true, exists_eq_left, exists_eq_left', Option.some.injEq, reduceIte, Nat.reduceEqDiff, Nat.reduceLT, Nat.reduceLeDiff, Nat.reduceAdd, Nat.reduceSub, Nat.reduceMul, eq_self, ne_eq, and_imp, forall_const, reduceCtorEq, am_w, List.map_cons, List.map_nil, List.sum_cons, List.sum_nil, Value.category, Nat.zero_le, Nat.le_refl]
            refine ⟨fun w => by omega, fun _ => ⟨_, _, ct_giveTime u1, fun k e => ?_, fun _ _ z => z⟩, by omega, by omega⟩
            subst e
            rw [fE]
            refine ⟨rfl, upd _ _ rfl rfl rfl rfl (fun _ _ _ z => i4 z) (fun c k a z => by simp only [am_hs]; rw [if_neg (fun w => z ⟨w.1, w.2.2⟩)]) rfl rfl rfl rfl ?_ ⟨g1, g2, g3, g4⟩ rfl rfl⟩
            refine ⟨?_, ?_, ?_, ?_, ?_, ?_, ?_, ?_, ?_, ?_, ?_, ?_⟩ <;> (try simp only [am_hs, true_and, and_true, and_self, true_or, or_true, false_or, or_false, false_and, and_false, not_true_eq_false, not_false_eq_true, Classical.not_not, true_implies, false_implies, implies_true, exists_eq_left, exists_eq_left', Option.some.injEq, reduceIte, Nat.reduceEqDiff, Nat.reduceLT, Nat.reduceLeDiff, Nat.reduceAdd, Nat.reduceSub, Nat.reduceMul, eq_self, ne_eq, and_imp, forall_const, reduceCtorEq, am_w, List.map_cons, List.map_nil, List.sum_cons, List.sum_nil, Value.category, Nat.zero_le, Nat.le_refl]) <;> first | exact (fun t ht => Option.some.inj ht) | first | exact y1 | exact y2 | exact y3 | exact y4 | exact y5 | exact y6 | exact y7 | exact y8 | exact y9 | exact y10 | exact y11 | exact y12 | rfl
          · have fE : f_set S (Int32.ofNat i) (Int32.ofNat 2) v = (Int32.ofNat 1, put_E S i (e_setT (a_E S.1 i) none)) := by rw [f_set, ixo_n hi (by omega), ix]; try rfl
            simp (disch := omega) only [qi_ti, u1, qi_lt, qi_le, qi_eq, qi_nn, qi_in, qi_add, qi_l, ql_i, ql_lt, ql_le, ql_eq, ql_add, qc_lt, qc_eq, qc_ge, qc_gt, qc_le, true_and, and_true, and_self, true_or, or_true, false_or, or_false, false_and, and_false, not_true_eq_false, not_false_eq_true, Classical.not_not, true_implies, false_implies, implies_true, exists_eq_left, exists_eq_left', Option.some.injEq, reduceIte, Nat.reduceEqDiff, Nat.reduceLT, Nat.reduceLeDiff, Nat.reduceAdd, Nat.reduceSub, Nat.reduceMul, eq_self, ne_eq, and_imp, forall_const, reduceCtorEq, am_w, List.map_cons, List.map_nil, List.sum_cons, List.sum_nil, Value.category, Nat.zero_le, Nat.le_refl]
            refine ⟨fun w => by omega, by omega, fun _ => ?_, by omega⟩
            rw [fE]
            refine ⟨rfl, upd _ _ rfl rfl rfl rfl (fun _ _ _ z => i4 z) (fun _ _ _ _ => rfl) rfl rfl rfl rfl ?_ ⟨g1, g2, g3, g4⟩ rfl rfl⟩
            refine ⟨?_, ?_, ?_, ?_, ?_, ?_, ?_, ?_, ?_, ?_, ?_, ?_⟩ <;> (try simp only [am_hs, true_and, and_true, and_self, true_or, or_true, false_or, or_false, false_and, and_false, not_true_eq_false, not_false_eq_true, Classical.not_not, true_implies, false_implies, implies_true, exists_eq_left, exists_eq_left', Option.some.injEq, reduceIte, Nat.reduceEqDiff, Nat.reduceLT, Nat.reduceLeDiff, Nat.reduceAdd, Nat.reduceSub, Nat.reduceMul, eq_self, ne_eq, and_imp, forall_const, reduceCtorEq, am_w, List.map_cons, List.map_nil, List.sum_cons, List.sum_nil, Value.category, Nat.zero_le, Nat.le_refl]) <;> first | exact (fun t ht => absurd (show none = some t from ht) (by simp)) | first | exact y1 | exact y2 | exact y3 | exact y4 | exact y5 | exact y6 | exact y7 | exact y8 | exact y9 | exact y10 | exact y11 | exact y12 | rfl
          · have fE : f_set S (Int32.ofNat i) (Int32.ofNat 3) v = (Int32.ofNat 1, put_E S i (e_setV (a_E S.1 i) (some v.toInt32))) := by rw [f_set, ixo_n hi (by omega), ix]; try rfl
            simp (disch := omega) only [qi_ti, u1, qi_lt, qi_le, qi_eq, qi_nn, qi_in, qi_add, qi_l, ql_i, ql_lt, ql_le, ql_eq, ql_add, qc_lt, qc_eq, qc_ge, qc_gt, qc_le, true_and, and_true, and_self, true_or, or_true, false_or, or_false, false_and, and_false, not_true_eq_false, not_false_eq_true, Classical.not_not, true_implies, false_implies, implies_true, exists_eq_left, exists_eq_left', Option.some.injEq, reduceIte, Nat.reduceEqDiff, Nat.reduceLT, Nat.reduceLeDiff, Nat.reduceAdd, Nat.reduceSub, Nat.reduceMul, eq_self, ne_eq, and_imp, forall_const, reduceCtorEq, am_w, List.map_cons, List.map_nil, List.sum_cons, List.sum_nil, Value.category, Nat.zero_le, Nat.le_refl]
            refine ⟨fun w => by omega, by omega, by omega, fun _ => ⟨_, _, ct_giveAttr u1, fun k e => ?_, fun _ _ z => z⟩⟩
            subst e
            rw [fE]
            refine ⟨rfl, upd _ _ rfl rfl rfl rfl (fun c k a z => by simp only [am_hs]; rw [if_neg (fun w => z ⟨w.1, w.2.2⟩), if_neg (fun w => z ⟨w.1, w.2.2⟩)]) (fun _ _ _ _ => rfl) rfl rfl rfl rfl ?_ ⟨g1, g2, g3, g4⟩ rfl rfl⟩
            refine ⟨?_, ?_, ?_, ?_, ?_, ?_, ?_, ?_, ?_, ?_, ?_, ?_⟩ <;> (try simp only [am_hs, true_and, and_true, and_self, true_or, or_true, false_or, or_false, false_and, and_false, not_true_eq_false, not_false_eq_true, Classical.not_not, true_implies, false_implies, implies_true, exists_eq_left, exists_eq_left', Option.some.injEq, reduceIte, Nat.reduceEqDiff, Nat.reduceLT, Nat.reduceLeDiff, Nat.reduceAdd, Nat.reduceSub, Nat.reduceMul, eq_self, ne_eq, and_imp, forall_const, reduceCtorEq, am_w, List.map_cons, List.map_nil, List.sum_cons, List.sum_nil, Value.category, Nat.zero_le, Nat.le_refl]) <;> first | exact (fun t ht => Option.some.inj ht) | first | exact y1 | exact y2 | exact y3 | exact y4 | exact y5 | exact y6 | exact y7 | exact y8 | exact y9 | exact y10 | exact y11 | exact y12 | rfl
          · have fE : f_set S (Int32.ofNat i) (Int32.ofNat 4) v = (Int32.ofNat 1, put_E S i (e_setV (a_E S.1 i) none)) := by rw [f_set, ixo_n hi (by omega), ix]; try rfl
            simp (disch := omega) only [qi_ti, u1, qi_lt, qi_le, qi_eq, qi_nn, qi_in, qi_add, qi_l, ql_i, ql_lt, ql_le, ql_eq, ql_add, qc_lt, qc_eq, qc_ge, qc_gt, qc_le, true_and, and_true, and_self, true_or, or_true, false_or, or_false, false_and, and_false, not_true_eq_false, not_false_eq_true, Classical.not_not, true_implies, false_implies, implies_true, exists_eq_left, exists_eq_left', Option.some.injEq, reduceIte, Nat.reduceEqDiff, Nat.reduceLT, Nat.reduceLeDiff, Nat.reduceAdd, Nat.reduceSub, Nat.reduceMul, eq_self, ne_eq, and_imp, forall_const, reduceCtorEq, am_w, List.map_cons, List.map_nil, List.sum_cons, List.sum_nil, Value.category, Nat.zero_le, Nat.le_refl]
            refine ⟨fun w => ?_, by omega, by omega, by omega⟩
            rw [fE]
            refine ⟨rfl, upd _ _ rfl rfl rfl rfl (fun _ _ _ z => i4 z) (fun _ _ _ _ => rfl) rfl rfl rfl rfl ?_ ⟨g1, g2, g3, g4⟩ rfl rfl⟩
            refine ⟨?_, ?_, ?_, ?_, ?_, ?_, ?_, ?_, ?_, ?_, ?_, ?_⟩ <;> (try simp only [am_hs, true_and, and_true, and_self, true_or, or_true, false_or, or_false, false_and, and_false, not_true_eq_false, not_false_eq_true, Classical.not_not, true_implies, false_implies, implies_true, exists_eq_left, exists_eq_left', Option.some.injEq, reduceIte, Nat.reduceEqDiff, Nat.reduceLT, Nat.reduceLeDiff, Nat.reduceAdd, Nat.reduceSub, Nat.reduceMul, eq_self, ne_eq, and_imp, forall_const, reduceCtorEq, am_w, List.map_cons, List.map_nil, List.sum_cons, List.sum_nil, Value.category, Nat.zero_le, Nat.le_refl]) <;> first | exact (fun t ht => absurd (show none = some t from ht) (by simp)) | first | exact y1 | exact y2 | exact y3 | exact y4 | exact y5 | exact y6 | exact y7 | exact y8 | exact y9 | exact y10 | exact y11 | exact y12 | rfl
        · have fE : f_set S (Int32.ofNat i) (Int32.ofNat b) v = (-2, S) := by rw [f_set, ixo_n hi (by omega), ixo_ge hb (by omega)]
          rw [fE]
          simp (disch := omega) only [qi_lt, qi_le, qi_eq, qi_nn, qi_in, qi_add, qi_l, ql_i, ql_lt, ql_le, ql_eq, ql_add, qc_lt, qc_eq, qc_ge, qc_gt, qc_le, true_and, and_true, and_self, true_or, or_true, false_or, or_false, false_and, and_false, not_true_eq_false, not_false_eq_true, Classical.not_not, true_implies, false_implies, implies_true, exists_eq_left, exists_eq_left', Option.some.injEq, reduceIte, Nat.reduceEqDiff, Nat.reduceLT, Nat.reduceLeDiff, Nat.reduceAdd, Nat.reduceSub, Nat.reduceMul, eq_self, ne_eq, and_imp, forall_const, reduceCtorEq, am_w, List.map_cons, List.map_nil, List.sum_cons, List.sum_nil, Value.category, Nat.zero_le, Nat.le_refl]
          refine ⟨fun w => by omega, fun _ => ⟨fun w => by omega, fun w => okC.rf q'⟩⟩
    · cases e
  · obtain ⟨ek, e⟩ := e
    subst k
    rcases e with ⟨i, hi, _, e⟩ | ⟨_, e⟩
    · cases e
    · have fE : f_set S x y v = (-2, S) := by rw [f_set, ixo_no (by omega) e]
      rw [fE]
      exact ⟨rfl, okC.rf q'⟩
theorem ct_of (q : RC tt P h cd bb wa wt S) {x y : Int32} : am_Ct tt 114 [.ref (cd 0), .int x, .int y] h (am_pI (fun r h' => r = f_of S x y ∧ okC tt P h cd bb wa wt S h') no_x) := by
  have q' := q
  obtain ⟨⟨s1, s2, s3, s4, s5, s6, s7⟩, ⟨v1, v2, v3⟩, q3, q4, q5, q6, q7⟩ := q
  obtain ⟨x1, x2, x3, x4, x5, x6, x7⟩ := s4
  have sa := (s5 wa s1).1
  have n24 := q3.1
  refine vc_114_0 tt _ _ _ h _ _ ?_
  simp (disch := omega) only [x1, x2, sa.1, am_hs, qi_lt, qi_le, qi_eq, qi_nn, qi_in, qi_add, qi_l, ql_i, ql_lt, ql_le, ql_eq, ql_add, qc_lt, qc_eq, qc_ge, qc_gt, qc_le, true_and, and_true, and_self, true_or, or_true, false_or, or_false, false_and, and_false, not_true_eq_false, not_false_eq_true, Classical.not_not, true_implies, false_implies, implies_true, exists_eq_left, exists_eq_left', Option.some.injEq, reduceIte, Nat.reduceEqDiff, Nat.reduceLT, Nat.reduceLeDiff, Nat.reduceAdd, Nat.reduceSub, Nat.reduceMul, eq_self, ne_eq, and_imp, forall_const, reduceCtorEq, am_w, List.map_cons, List.map_nil, List.sum_cons, List.sum_nil, Value.category, Nat.zero_le, Nat.le_refl]
  refine ⟨_, _, ct_find sa v1 q3.1, ⟨fun o k e => ?_, fun k e => ?_⟩, fun _ _ z => z⟩
  · obtain ⟨ek, e⟩ := e
    subst k
    rcases e with ⟨i, hi, rfl, e⟩ | ⟨e, _⟩
    · cases e
      obtain ⟨t1, t2⟩ := sa.2.2.2.2.2.2.2.1 i (by omega)
      obtain ⟨u1, u2, u3, u4, u5, u6, u7, u8⟩ := t2
      obtain ⟨y1, y2, y3, y4, y5, y6, y7, y8, y9, y10, y11, y12⟩ := v2 i hi
      obtain ⟨g1, g2, g3, g4⟩ := q3.2.1 i hi
      rcases qi_cases y with hy | ⟨b, hb, rfl⟩
      · have fE : f_of S (Int32.ofNat i) y = -2 := by rw [f_of, ixo_n hi (by omega), ixo_neg hy]
        have ti : y.toInt < 0 := by rw [Int32.lt_iff_toInt_lt] at hy; exact hy
        rw [fE]
        refine ⟨fun _ => ⟨rfl, okC.rf q'⟩, ?_, ?_, ?_, ?_, ?_, ?_, ?_, ?_, ?_⟩ <;> intro w <;> omega
      · by_cases hb9 : b < 9
        · have ix : ixo 9 (Int32.ofNat b) = some b := ixo_n hb9 (by omega)
          have c9 : b = 0 ∨ b = 1 ∨ b = 2 ∨ b = 3 ∨ b = 4 ∨ b = 5 ∨ b = 6 ∨ b = 7 ∨ b = 8 := by omega
          have one : ∀ (b : Bool) (r0 : Int32), r0 = b01 b → ∃ (Q4 : Int32 → am_H → Prop) (X4 : String → am_H → Prop), am_Ct tt 115 [.int (b01 b)] h (am_pI Q4 X4) ∧ (∀ x5 h3, Q4 x5 h3 → x5 = r0 ∧ okC tt P h cd bb wa wt S h3) ∧ (∀ E h3, X4 E h3 → no_x E h3) := fun b r0 er => ⟨_, _, ct_oneIf, fun x k e => by rw [e.1, e.2]; exact ⟨er.symm, okC.rf q'⟩, fun _ _ z => z⟩
          simp (disch := omega) only [qi_ti, u1, y1, y2, y4, y5, y6, y7, y9, y11, x1, x2, sa.1, am_hs, qi_lt, qi_le, qi_eq, qi_nn, qi_in, qi_add, qi_l, ql_i, ql_lt, ql_le, ql_eq, ql_add, qc_lt, qc_eq, qc_ge, qc_gt, qc_le, true_and, and_true, and_self, true_or, or_true, false_or, or_false, false_and, and_false, not_true_eq_false, not_false_eq_true, Classical.not_not, true_implies, false_implies, implies_true, exists_eq_left, exists_eq_left', Option.some.injEq, reduceIte, Nat.reduceEqDiff, Nat.reduceLT, Nat.reduceLeDiff, Nat.reduceAdd, Nat.reduceSub, Nat.reduceMul, eq_self, ne_eq, and_imp, forall_const, reduceCtorEq, am_w, List.map_cons, List.map_nil, List.sum_cons, List.sum_nil, Value.category, Nat.zero_le, Nat.le_refl]
          rcases c9 with rfl | rfl | rfl | rfl | rfl | rfl | rfl | rfl | rfl
          all_goals
            rw [f_of, ixo_n hi (by omega), ix]
          · exact ⟨by omega, fun _ => ⟨rfl, okC.rf q'⟩, by omega, by omega, by omega, by omega, by omega, by omega, by omega, by omega⟩
          · exact ⟨by omega, by omega, fun _ => ⟨rfl, okC.rf q'⟩, by omega, by omega, by omega, by omega, by omega, by omega, by omega⟩
          · exact ⟨by omega, by omega, by omega, fun _ => ⟨rfl, okC.rf q'⟩, by omega, by omega, by omega, by omega, by omega, by omega⟩
          · exact ⟨by omega, by omega, by omega, by omega, fun _ => ⟨rfl, okC.rf q'⟩, by omega, by omega, by omega, by omega, by omega⟩
          · exact ⟨by omega, by omega, by omega, by omega, by omega, fun _ => one _ _ rfl, by omega, by omega, by omega, by omega⟩
          · exact ⟨by omega, by omega, by omega, by omega, by omega, by omega, fun _ => one _ _ rfl, by omega, by omega, by omega⟩
          · exact ⟨by omega, by omega, by omega, by omega, by omega, by omega, by omega, fun _ => one _ _ rfl, by omega, by omega⟩
          · exact ⟨by omega, by omega, by omega, by omega, by omega, by omega, by omega, by omega, fun _ => one _ _ rfl, by omega⟩
          · refine ⟨by omega, by omega, by omega, by omega, by omega, by omega, by omega, by omega, by omega, fun _ => ⟨_, _, ct_isLost sa g4 (v3 _ g4) u1 y4 (by omega) y5, fun x k e => ?_, fun _ _ z => z⟩⟩
            obtain ⟨e1, e2⟩ := e
            subst k e2
            exact one _ _ rfl
        · have fE : f_of S (Int32.ofNat i) (Int32.ofNat b) = -2 := by rw [f_of, ixo_n hi (by omega), ixo_ge hb (by omega)]
          rw [fE]
          simp (disch := omega) only [qi_ti, qi_lt, qi_le, qi_eq, qi_nn, qi_in, qi_add, qi_l, ql_i, ql_lt, ql_le, ql_eq, ql_add, qc_lt, qc_eq, qc_ge, qc_gt, qc_le, true_and, and_true, and_self, true_or, or_true, false_or, or_false, false_and, and_false, not_true_eq_false, not_false_eq_true, Classical.not_not, true_implies, false_implies, implies_true, exists_eq_left, exists_eq_left', Option.some.injEq, reduceIte, Nat.reduceEqDiff, Nat.reduceLT, Nat.reduceLeDiff, Nat.reduceAdd, Nat.reduceSub, Nat.reduceMul, eq_self, ne_eq, and_imp, forall_const, reduceCtorEq, am_w, List.map_cons, List.map_nil, List.sum_cons, List.sum_nil, Value.category, Nat.zero_le, Nat.le_refl]
          exact ⟨fun _ => okC.rf q', by omega, by omega, by omega, by omega, by omega, by omega, by omega, by omega, by omega⟩
    · cases e
  · obtain ⟨ek, e⟩ := e
    subst k
    rcases e with ⟨i, hi, _, e⟩ | ⟨_, e⟩
    · cases e
    · have fE : f_of S x y = -2 := by rw [f_of, ixo_no (by omega) e]
      rw [fE]
      exact ⟨rfl, okC.rf q'⟩
theorem ct_cut (q : RC tt P h cd bb wa wt S) {x : Int32} : am_Ct tt 122 [.ref (cd 0), .int x] h (am_pI (fun r h' => r = (f_cut S x).1 ∧ okC tt P h cd bb wa wt (f_cut S x).2 h') no_x) := by
  have q' := q
  obtain ⟨⟨s1, s2, s3, s4, s5, s6, s7⟩, v, q3, q4, q5, q6, q7⟩ := q
  obtain ⟨x1, x2, x3, x4, x5, x6, x7⟩ := s4
  have st := (s5 wt s2).2
  have n5 := q4.2.1
  refine vc_122_0 tt _ _ h _ _ ?_
  rcases qi_cases x with hx | ⟨b, hb, rfl⟩
  · have fE : f_cut S x = (-2, S) := by rw [f_cut, ixo_neg hx]
    rw [fE]
    exact ⟨fun _ => ⟨rfl, okC.rf q'⟩, fun w => absurd hx w⟩
  · simp (disch := omega) only [x1, x4, st.1, q4.1, am_hs, qi_lt, qi_le, qi_eq, qi_nn, qi_in, qi_add, qi_l, ql_i, ql_lt, ql_le, ql_eq, ql_add, qc_lt, qc_eq, qc_ge, qc_gt, qc_le, true_and, and_true, and_self, true_or, or_true, false_or, or_false, false_and, and_false, not_true_eq_false, not_false_eq_true, Classical.not_not, true_implies, false_implies, implies_true, exists_eq_left, exists_eq_left', Option.some.injEq, reduceIte, Nat.reduceEqDiff, Nat.reduceLT, Nat.reduceLeDiff, Nat.reduceAdd, Nat.reduceSub, Nat.reduceMul, eq_self, ne_eq, and_imp, forall_const, reduceCtorEq, am_w, List.map_cons, List.map_nil, List.sum_cons, List.sum_nil, Value.category, Nat.zero_le, Nat.le_refl]
    refine ⟨by omega, fun _ => ⟨fun w => ?_, fun w => ?_⟩⟩
    · rw [f_cut, ixo_n (by omega : b < S.2.1 + 1) (by omega)]
      refine ⟨rfl, ?_⟩
      have up := q'.upT (h' := am_sI h 6 1 (cd (c_tp wt)) (Int32.ofNat b)) (n := b) (T := S.2.2.1) rfl rfl rfl rfl (fun c k a z => by simp only [am_hs]; rw [if_neg (fun w => z ⟨w.1, w.2.2⟩)]) rfl (fun a _ => rfl) rfl (by simp only [am_hs, true_and, and_true, and_self, true_or, or_true, false_or, or_false, false_and, and_false, not_true_eq_false, not_false_eq_true, Classical.not_not, true_implies, false_implies, implies_true, exists_eq_left, exists_eq_left', Option.some.injEq, reduceIte, Nat.reduceEqDiff, Nat.reduceLT, Nat.reduceLeDiff, Nat.reduceAdd, Nat.reduceSub, Nat.reduceMul, eq_self, ne_eq, and_imp, forall_const, reduceCtorEq, am_w, List.map_cons, List.map_nil, List.sum_cons, List.sum_nil, Value.category, Nat.zero_le, Nat.le_refl]) (by omega) (fun j hj => q4.2.2 j (by omega))
      exact ⟨up.1, up.2, rfl, rfl, rfl⟩
    · rw [f_cut, ixo_ge hb (by omega)]
      exact ⟨rfl, okC.rf q'⟩
/-- the class's tape, as a tape -/
theorem RC.tp (q : RC tt P h cd bb wa wt S) : tp_n h (cd (c_tp wt)) (cd (c_tb wt)) S.2.1 := ⟨(q.1.2.2.2.2.1 wt q.1.2.1).2, q.2.2.2.1.1, q.2.2.2.1.2.1⟩
/-- lengths and bytes alone are behind the bytes that were added -/
theorem tp_l_c {t b : Nat} : ∀ {l : List Int32} {k : am_H} {n : Nat}, am_I k 6 1 t = Int32.ofNat n → n + l.length ≤ 5000 → (∀ j, am_A (tp_l t b k l) b j = if n ≤ j ∧ j < n + l.length then by8 (l.getD (j - n) 0) else am_A k b j) ∧ am_I (tp_l t b k l) 6 1 t = Int32.ofNat (n + l.length) ∧ am_I (tp_l t b k l) 6 2 t = am_I k 6 2 t
  | [], k, n, hn, hl => ⟨fun j => by rw [if_neg (by simp only [List.length_nil]; omega)]; rfl, hn, rfl⟩
  | v :: l, k, n, hn, hl => by
    simp only [List.length_cons] at hl
    have e1 : tp_b t b k v = am_sI (am_sA k b n (by8 v)) 6 1 t (Int32.ofNat (n + 1)) := by
      unfold tp_b
      rw [hn]
      simp (disch := omega) only [qi_lt, qi_le, qi_eq, qi_nn, qi_in, qi_add, qi_l, ql_i, ql_lt, ql_le, ql_eq, ql_add, qc_lt, qc_eq, qc_ge, qc_gt, qc_le]
      rw [if_pos (by omega)]
      rfl
    have ih := tp_l_c (t := t) (b := b) (l := l) (k := tp_b t b k v) (n := n + 1) (by rw [e1]; simp only [am_hs, true_and, and_true, and_self, true_or, or_true, false_or, or_false, false_and, and_false, not_true_eq_false, not_false_eq_true, Classical.not_not, true_implies, false_implies, implies_true, exists_eq_left, exists_eq_left', Option.some.injEq, reduceIte, Nat.reduceEqDiff, Nat.reduceLT, Nat.reduceLeDiff, Nat.reduceAdd, Nat.reduceSub, Nat.reduceMul, eq_self, ne_eq, and_imp, forall_const, reduceCtorEq, am_w, List.map_cons, List.map_nil, List.sum_cons, List.sum_nil, Value.category, Nat.zero_le, Nat.le_refl]) (by omega)
    rw [tp_l_cons]
    refine ⟨fun j => ?_, ?_, ?_⟩
    · rw [ih.1 j, e1]
      simp only [am_hs, true_and, and_true, and_self, true_or, or_true, false_or, or_false, false_and, and_false, not_true_eq_false, not_false_eq_true, Classical.not_not, true_implies, false_implies, implies_true, exists_eq_left, exists_eq_left', Option.some.injEq, reduceIte, Nat.reduceEqDiff, Nat.reduceLT, Nat.reduceLeDiff, Nat.reduceAdd, Nat.reduceSub, Nat.reduceMul, eq_self, ne_eq, and_imp, forall_const, reduceCtorEq, am_w, List.map_cons, List.map_nil, List.sum_cons, List.sum_nil, Value.category, Nat.zero_le, Nat.le_refl, List.length_cons]
      by_cases c : n + 1 ≤ j ∧ j < n + 1 + l.length
      · rw [if_pos c, if_pos (by omega)]
        rw [show j - n = (j - (n + 1)) + 1 by omega, List.getD_cons_succ]
      · rw [if_neg c]
        by_cases c2 : j = n
        · subst c2; rw [if_pos rfl, if_pos (by omega), Nat.sub_self, List.getD_cons_zero]
        · rw [if_neg c2, if_neg (by omega)]
    · rw [ih.2.1, List.length_cons]; congr 1; omega
    · rw [ih.2.2, e1]; simp only [am_hs, true_and, and_true, and_self, true_or, or_true, false_or, or_false, false_and, and_false, not_true_eq_false, not_false_eq_true, Classical.not_not, true_implies, false_implies, implies_true, exists_eq_left, exists_eq_left', Option.some.injEq, reduceIte, Nat.reduceEqDiff, Nat.reduceLT, Nat.reduceLeDiff, Nat.reduceAdd, Nat.reduceSub, Nat.reduceMul, eq_self, ne_eq, and_imp, forall_const, reduceCtorEq, am_w, List.map_cons, List.map_nil, List.sum_cons, List.sum_nil, Value.category, Nat.zero_le, Nat.le_refl]
/-- the bytes of a long, the highest first -/
def wl (w : Int64) : Nat → List Int32
  | 0 => []
  | d + 1 => lb w d :: wl w d
theorem wl_n {w : Int64} : ∀ {d : Nat}, (wl w d).length = d
  | 0 => rfl
  | d + 1 => by rw [wl, List.length_cons, wl_n]
theorem wl_g {w : Int64} : ∀ {d j : Nat}, j < d → (wl w d).getD j 0 = lb w (d - 1 - j)
  | d + 1, 0, _ => rfl
  | d + 1, j + 1, h => by rw [wl, List.getD_cons_succ, wl_g (by omega)]; congr 1; omega
theorem ct_type (q : RC tt P h cd bb wa wt S) {w : Int64} {x : Int32} : am_Ct tt 121 [.ref (cd 0), .long w, .int x] h (am_pI (fun r h' => r = (f_type S w x).1 ∧ okC tt P h cd bb wa wt (f_type S w x).2 h') no_x) := by
  have q' := q
  have qt := q.tp
  obtain ⟨⟨s1, s2, s3, s4, s5, s6, s7⟩, v, q3, q4, q5, q6, q7⟩ := q
  obtain ⟨x1, x2, x3, x4, x5, x6, x7⟩ := s4
  have st := (s5 wt s2).2
  have n5 := q4.2.1
  refine vc_121_0 tt _ _ _ h _ _ ?_
  have ne6 : cd 0 ≠ cd (c_tp wt) := fun e => by have := s3.1 _ _ e; unfold c_tp at this; omega
  have key : ∀ (d n : Nat) (k : am_H) (Q : Int32 → am_H → Prop), d ≤ 8 → tp_n k (cd (c_tp wt)) (cd (c_tb wt)) n → n + d ≤ 5000 → am_K k (cd 0) = 10 → am_R k 9 2 (cd 0) = some (cd (c_tp wt)) → Q (Int32.ofNat (n + d)) (tp_l (cd (c_tp wt)) (cd (c_tb wt)) k (wl w d)) →
      am_Ev tt 121 47 [some (.ref (cd 0)), some (.long w), none, none, some (.int (Int32.ofNat d + (-1 : Int32)))] [] k (am_pI Q no_x) := by
    intro d
    induction d with
    | zero =>
      intro n k Q hd qn hn k1 k2 hQ
      refine vc_121_47 tt _ _ _ k _ _ ?_
      refine ⟨fun _ => ⟨k1, _, k2, qn.1.1, ?_⟩, fun z => absurd (show Int32.ofNat 0 + (-1 : Int32) < Int32.ofNat 0 by decide) z⟩
      rw [qn.2.1]
      exact hQ
    | succ d ih =>
      intro n k Q hd qn hn k1 k2 hQ
      rw [qi_dec (by omega), Nat.add_sub_cancel]
      refine vc_121_47 tt _ _ _ k _ _ ?_
      simp (disch := omega) only [k1, k2, qn.1.1, qi_mul, am_hs, qi_lt, qi_le, qi_eq, qi_nn, qi_in, qi_add, qi_l, ql_i, ql_lt, ql_le, ql_eq, ql_add, qc_lt, qc_eq, qc_ge, qc_gt, qc_le, true_and, and_true, and_self, true_or, or_true, false_or, or_false, false_and, and_false, not_true_eq_false, not_false_eq_true, Classical.not_not, true_implies, false_implies, implies_true, exists_eq_left, exists_eq_left', Option.some.injEq, reduceIte, Nat.reduceEqDiff, Nat.reduceLT, Nat.reduceLeDiff, Nat.reduceAdd, Nat.reduceSub, Nat.reduceMul, eq_self, ne_eq, and_imp, forall_const, reduceCtorEq, am_w, List.map_cons, List.map_nil, List.sum_cons, List.sum_nil, Value.category, Nat.zero_le, Nat.le_refl]
      refine ⟨fun z => by omega, fun _ => ⟨_, _, ct_addByte qn, fun k' e => ?_, fun _ _ z => z⟩⟩
      subst e
      rw [tp_b_8 (lb_u (by omega))]
      have qn' := tp_b_n (v := lb w d) qn
      rw [if_pos (by omega)] at qn'
      refine ih (n + 1) _ Q (by omega) qn' (by omega) (by simp only [tp_b_fr, k1]) (by simp only [tp_b_fr, k2]) ?_
      rw [show n + 1 + d = n + (d + 1) by omega]
      exact hQ
  have b8 : ∀ j, by8 (lb w j) = lb w j := fun j => lb_88 w j
  rcases qi_cases x with hx | ⟨b, hb, rfl⟩
  · have fE : f_type S w x = (-2, S) := by rw [f_type, if_pos (Or.inl hx)]
    rw [fE]
    exact ⟨fun _ => ⟨rfl, okC.rf q'⟩, fun w => absurd hx w⟩
  · have c0 : ¬ Int32.ofNat b < Int32.ofNat 0 := by simp (disch := omega) only [qi_lt, qi_le, qi_eq, qi_nn, qi_in, qi_add, qi_l, ql_i, ql_lt, ql_le, ql_eq, ql_add, qc_lt, qc_eq, qc_ge, qc_gt, qc_le]; omega
    by_cases hb8 : b ≤ 8
    · simp (disch := omega) only [x1, x4, st.1, q4.1, am_hs, qi_lt, qi_le, qi_eq, qi_nn, qi_in, qi_add, qi_l, ql_i, ql_lt, ql_le, ql_eq, ql_add, qc_lt, qc_eq, qc_ge, qc_gt, qc_le, true_and, and_true, and_self, true_or, or_true, false_or, or_false, false_and, and_false, not_true_eq_false, not_false_eq_true, Classical.not_not, true_implies, false_implies, implies_true, exists_eq_left, exists_eq_left', Option.some.injEq, reduceIte, Nat.reduceEqDiff, Nat.reduceLT, Nat.reduceLeDiff, Nat.reduceAdd, Nat.reduceSub, Nat.reduceMul, eq_self, ne_eq, and_imp, forall_const, reduceCtorEq, am_w, List.map_cons, List.map_nil, List.sum_cons, List.sum_nil, Value.category, Nat.zero_le, Nat.le_refl]
      have c1 : ¬ (Int32.ofNat b < Int32.ofNat 0 ∨ Int32.ofNat 8 < Int32.ofNat b) := by simp (disch := omega) only [qi_lt, qi_le, qi_eq, qi_nn, qi_in, qi_add, qi_l, ql_i, ql_lt, ql_le, ql_eq, ql_add, qc_lt, qc_eq, qc_ge, qc_gt, qc_le]; omega
      refine ⟨by omega, fun _ => ⟨fun _ => ⟨fun z => ⟨fun z2 => ?_, fun z2 => ?_⟩, fun z => ?_⟩, by omega⟩⟩
      · have fE : f_type S w (Int32.ofNat b) = (Int32.ofNat (S.2.1 + b), put_T S (S.2.1 + b) (apw S.2.2.1 S.2.1 w b)) := by
          rw [f_type, if_neg c1, if_neg (by simp (disch := omega) only [qi_lt, qi_le, qi_eq, qi_nn, qi_in, qi_add, qi_l, ql_i, ql_lt, ql_le, ql_eq, ql_add, qc_lt, qc_eq, qc_ge, qc_gt, qc_le]; omega), qi_nn (by omega), if_neg (by omega)]
        rw [fE, Int32.sub_eq_add_neg]
        refine key b S.2.1 h _ hb8 qt z x1 x4 ⟨rfl, ?_⟩
        have c := tp_l_c (l := wl w b) (b := cd (c_tb wt)) q4.1 (by rw [wl_n]; exact z)
        rw [wl_n] at c
        have up := q'.upT (h' := tp_l (cd (c_tp wt)) (cd (c_tb wt)) h (wl w b)) (n := S.2.1 + b) (T := apw S.2.2.1 S.2.1 w b) (by simp only [tp_l_fr]) (by simp only [tp_l_fr]) (by simp only [tp_l_fr]) (by simp only [tp_l_fr]) (fun c k a z => tp_l_I z) (by simp only [tp_l_fr]) (fun a z => tp_l_A z) (by simp only [tp_l_fr]) c.2.1 z (fun j hj => by
          rw [c.1 j]
          unfold apw
          by_cases c3 : S.2.1 ≤ j ∧ j < S.2.1 + b
          · rw [if_pos c3, if_pos c3, wl_g (by omega), b8]
            exact ⟨rfl, rfl⟩
          · rw [if_neg c3, if_neg c3]
            exact q4.2.2 j (by omega))
        exact ⟨up.1, up.2, by simp only [tp_l_fr], by simp only [tp_l_fr], by simp only [tp_l_fr]⟩
      · have : b = 0 := by omega
        subst this
        have fE : f_type S w (Int32.ofNat 0) = (Int32.ofNat 0, put_T S 0 S.2.2.1) := by
          rw [f_type, if_neg c1, if_pos rfl]
        rw [fE, Int32.sub_eq_add_neg]
        refine ⟨_, _, ct_tempty st.1, fun k e => ?_, fun _ _ z => z⟩
        subst e
        refine key 0 0 _ _ (by omega) ⟨st, by simp only [am_hs, true_and, and_true, and_self, true_or, or_true, false_or, or_false, false_and, and_false, not_true_eq_false, not_false_eq_true, Classical.not_not, true_implies, false_implies, implies_true, exists_eq_left, exists_eq_left', Option.some.injEq, reduceIte, Nat.reduceEqDiff, Nat.reduceLT, Nat.reduceLeDiff, Nat.reduceAdd, Nat.reduceSub, Nat.reduceMul, eq_self, ne_eq, and_imp, forall_const, reduceCtorEq, am_w, List.map_cons, List.map_nil, List.sum_cons, List.sum_nil, Value.category, Nat.zero_le, Nat.le_refl], by omega⟩ (by omega) x1 x4 ⟨rfl, ?_⟩
        rw [wl, tp_l_nil]
        have up := q'.upT (h' := am_sI (am_sI h 6 1 (cd (c_tp wt)) (Int32.ofNat 0)) 6 2 (cd (c_tp wt)) (Int32.ofNat 0)) (n := 0) (T := S.2.2.1) rfl rfl rfl rfl (fun c k a z => by simp only [am_hs]; rw [if_neg (fun w => z ⟨w.1, w.2.2⟩), if_neg (fun w => z ⟨w.1, w.2.2⟩)]) rfl (fun a z => rfl) rfl (by simp only [am_hs, true_and, and_true, and_self, true_or, or_true, false_or, or_false, false_and, and_false, not_true_eq_false, not_false_eq_true, Classical.not_not, true_implies, false_implies, implies_true, exists_eq_left, exists_eq_left', Option.some.injEq, reduceIte, Nat.reduceEqDiff, Nat.reduceLT, Nat.reduceLeDiff, Nat.reduceAdd, Nat.reduceSub, Nat.reduceMul, eq_self, ne_eq, and_imp, forall_const, reduceCtorEq, am_w, List.map_cons, List.map_nil, List.sum_cons, List.sum_nil, Value.category, Nat.zero_le, Nat.le_refl]) (by omega) (fun j hj => by omega)
        exact ⟨up.1, up.2, rfl, rfl, rfl⟩
      · have fE : f_type S w (Int32.ofNat b) = (-4, S) := by
          rw [f_type, if_neg c1, if_neg (by simp (disch := omega) only [qi_lt, qi_le, qi_eq, qi_nn, qi_in, qi_add, qi_l, ql_i, ql_lt, ql_le, ql_eq, ql_add, qc_lt, qc_eq, qc_ge, qc_gt, qc_le]; omega), qi_nn (by omega), if_pos (by omega)]
        rw [fE]
        exact ⟨rfl, okC.rf q'⟩
    · have fE : f_type S w (Int32.ofNat b) = (-2, S) := by
        rw [f_type, if_pos (Or.inr (by simp (disch := omega) only [qi_lt, qi_le, qi_eq, qi_nn, qi_in, qi_add, qi_l, ql_i, ql_lt, ql_le, ql_eq, ql_add, qc_lt, qc_eq, qc_ge, qc_gt, qc_le]; omega))]
      rw [fE]
      simp (disch := omega) only [qi_lt, qi_le, qi_eq, qi_nn, qi_in, qi_add, qi_l, ql_i, ql_lt, ql_le, ql_eq, ql_add, qc_lt, qc_eq, qc_ge, qc_gt, qc_le, true_and, and_true, and_self, true_or, or_true, false_or, or_false, false_and, and_false, not_true_eq_false, not_false_eq_true, Classical.not_not, true_implies, false_implies, implies_true, exists_eq_left, exists_eq_left', Option.some.injEq, reduceIte, Nat.reduceEqDiff, Nat.reduceLT, Nat.reduceLeDiff, Nat.reduceAdd, Nat.reduceSub, Nat.reduceMul, eq_self, ne_eq, and_imp, forall_const, reduceCtorEq, am_w, List.map_cons, List.map_nil, List.sum_cons, List.sum_nil, Value.category, Nat.zero_le, Nat.le_refl]
      exact ⟨by omega, fun _ => ⟨by omega, fun _ => okC.rf q'⟩⟩
theorem ck_fr {f g : Nat → Int32} {p n : Nat} (h : ∀ j, p ≤ j → j < p + n → f j = g j) : ck f p n = ck g p n := by
  unfold ck
  congr 1
  generalize (-1 : Int32) = c
  induction n generalizing p c with
  | zero => rfl
  | succ n ih =>
    unfold ckr
    rw [h p (by omega) (by omega)]
    exact ih (fun j h1 h2 => h j (by omega) (by omega)) _
theorem lt_fr {f g : Nat → Int32} {p : Nat} : ∀ {n : Nat}, (∀ j, p ≤ j → j < p + n → f j = g j) → lt f p n = lt g p n
  | 0, _ => rfl
  | n + 1, h => by
    unfold lt
    rw [lt_fr (fun j h1 h2 => h j h1 (by omega)), h (p + n) (by omega) (by omega)]
theorem told_fr {f g : Nat → Int32} {n : Nat} (h : ∀ j, j < n → f j = g j) (hn : 32 ≤ n) : told f n = told g n := by
  unfold told
  rw [lt_fr (f := f) (g := g) (p := 12) (n := 8) (fun j _ h2 => h j (by omega)), lt_fr (f := f) (g := g) (p := 20) (n := 8) (fun j _ h2 => h j (by omega))]
/-- what is told, as numbers -/
theorem told_o {f : Nat → Int32} {n : Nat} (t : told f n) (hn : n ≤ 5000) : ∃ o z, lt f 12 8 = Int64.ofNat o ∧ lt f 20 8 = Int64.ofNat z ∧ 32 + o + z = n := by
  obtain ⟨t1, t2, t3, t4, t5⟩ := t
  obtain ⟨o, ho, eo⟩ := ql_ge0 _ t1
  obtain ⟨z, hz, ez⟩ := ql_ge0 _ t3
  rw [eo, ez] at t5
  rw [eo] at t2
  rw [ez] at t4
  simp (disch := omega) only [qi_lt, qi_le, qi_eq, qi_nn, qi_in, qi_add, qi_l, ql_i, ql_lt, ql_le, ql_eq, ql_add, qc_lt, qc_eq, qc_ge, qc_gt, qc_le] at t2 t4
  simp (disch := omega) only [qi_lt, qi_le, qi_eq, qi_nn, qi_in, qi_add, qi_l, ql_i, ql_lt, ql_le, ql_eq, ql_add, qc_lt, qc_eq, qc_ge, qc_gt, qc_le] at t5
  exact ⟨o, z, eo, ez, t5⟩
theorem lay_8 {f : Nat → Int32} {p n j : Nat} {v : Int64} (h : by8 (f j) = f j) : by8 (lay f p v n j) = lay f p v n j := by
  unfold lay
  split
  · exact lb_88 _ _
  · exact h
/-- the tape's bytes change, its length doesn't -/
theorem RC.upS (q : RC tt P h cd bb wa wt S) {T f : Nat → Int32} (hT : ∀ j, j < S.2.1 → f j = T j ∧ by8 (T j) = T j) : okC tt P h cd bb wa wt (put_T S S.2.1 T) (am_cA h (cd (c_tb wt)) f) := by
  have up := q.upT (h' := am_cA h (cd (c_tb wt)) f) (n := S.2.1) (T := T) rfl rfl rfl rfl (fun _ _ _ _ => rfl) rfl (fun a z => by simp only [am_hs]; rw [if_neg z]) rfl q.2.2.2.1.1 q.2.2.2.1.2.1 (fun j hj => by simp only [am_hs, true_and, and_true, and_self, true_or, or_true, false_or, or_false, false_and, and_false, not_true_eq_false, not_false_eq_true, Classical.not_not, true_implies, false_implies, implies_true, exists_eq_left, exists_eq_left', Option.some.injEq, reduceIte, Nat.reduceEqDiff, Nat.reduceLT, Nat.reduceLeDiff, Nat.reduceAdd, Nat.reduceSub, Nat.reduceMul, eq_self, ne_eq, and_imp, forall_const, reduceCtorEq, am_w, List.map_cons, List.map_nil, List.sum_cons, List.sum_nil, Value.category, Nat.zero_le, Nat.le_refl]; exact hT j hj)
  exact ⟨up.1, up.2, rfl, rfl, rfl⟩
theorem okC.tr {S' S'' : sS} {h'' : am_H} {wa' wt' wa'' wt'' : Nat} (a : okC tt P h cd bb wa' wt' S' h') (b : okC tt P h' cd bb wa'' wt'' S'' h'') : okC tt P h cd bb wa'' wt'' S'' h'' := ⟨b.1, a.2.1.tr b.2.1, b.2.2.1.trans a.2.2.1, b.2.2.2.1.trans a.2.2.2.1, b.2.2.2.2.trans a.2.2.2.2⟩
end PD
