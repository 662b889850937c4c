/-! deps: 15f -/
/-! ===== the class's calls: number, at, coderAt, coder, peek, poke ===== -/
/-! 116 yX9_number -/
theorem vc_116_0 (tt : Nat → Nat) (a0 : Nat) (a1 : Int32) (a2 : Int32) (h : am_H) (Q : Int64 → am_H → Prop) (Qx : String → am_H → Prop) (q :
  (am_K h a0 = 10 ∧ ∃ q1, am_R h 9 0 a0 = some q1 ∧
  (am_K h q1 = 1 ∧ ∃ (Q3 : Option Nat → am_H → Prop) (X3 : String → am_H → Prop), am_Ct tt 3 [.ref q1, .int a1] h (am_pR Q3 X3) ∧ ((∀ q4 h2, Q3 (some q4) h2 →
   ((¬ a2 = (Int32.ofNat 0) →
    ((¬ a2 = (Int32.ofNat 1) →
     ((¬ a2 = (Int32.ofNat 2) →
      Q (Int64.ofNat 0) h2) ∧
     (¬ (¬ a2 = (Int32.ofNat 2)) →
      (am_K h2 a0 = 10 ∧ ∃ q5, am_R h2 9 0 a0 = some q5 ∧
      (am_K h2 q5 = 1 ∧ ∃ (Q7 : Int32 → am_H → Prop) (X7 : String → am_H → Prop), am_Ct tt 6 [.ref q5, .ref q4] h2 (am_pI Q7 X7) ∧ (∀ x8 h6, Q7 x8 h6 →
       ((¬ x8 = (Int32.ofNat 0) →
        Q (Int64.ofNat 0) h6) ∧
       (¬ (¬ x8 = (Int32.ofNat 0)) →
        (am_K h6 q4 = 5 ∧ ∃ q9, am_R h6 4 2 q4 = some q9 ∧
        (am_K h6 q4 = 5 ∧
        (∃ (Q11 : Int32 → am_H → Prop) (X11 : String → am_H → Prop), am_Ct tt 126 [.ref q9, .int (Int32.ofNat 0), .int (am_I h6 4 3 q4)] h6 (am_pI Q11 X11) ∧ (∀ x12 h10, Q11 x12 h10 →
         Q ((x12).toInt64 &&& (Int64.ofNat 4294967295)) h10) ∧ (∀ E13 h10, X11 E13 h10 → Qx E13 h10))))))) ∧ (∀ E14 h6, X7 E14 h6 → Qx E14 h6)))))) ∧
    (¬ (¬ a2 = (Int32.ofNat 1)) →
     (am_K h2 q4 = 5 ∧
     (((am_I h2 4 9 q4) = (Int32.ofNat 0) →
      Q (Int64.ofNat 0) h2) ∧
     (¬ ((am_I h2 4 9 q4) = (Int32.ofNat 0)) →
      (am_K h2 q4 = 5 ∧
      Q ((am_I h2 4 10 q4)).toInt64 h2))))))) ∧
   (¬ (¬ a2 = (Int32.ofNat 0)) →
    (am_K h2 q4 = 5 ∧
    (((am_I h2 4 7 q4) = (Int32.ofNat 0) →
     Q (Int64.ofNat 0) h2) ∧
    (¬ ((am_I h2 4 7 q4) = (Int32.ofNat 0)) →
     (am_K h2 q4 = 5 ∧
     Q (am_J h2 4 8 q4) h2))))))) ∧ (∀ h2, Q3 none h2 →
   Q (Int64.ofNat 0) h2)) ∧ (∀ E15 h2, X3 E15 h2 → Qx E15 h2)))) :
  am_Ev tt 116 0 [some (.ref a0), some (.int a1), some (.int a2), none] [] h (am_pL Q Qx) := am_vc 32 [] q

/-! 117 yX9_at -/
theorem vc_117_0 (tt : Nat → Nat) (a0 : Nat) (a1 : Int32) (a2 : Int32) (a3 : Int32) (h : am_H) (Q : Int32 → am_H → Prop) (Qx : String → am_H → Prop) (q :
  (am_K h a0 = 10 ∧ ∃ q1, am_R h 9 0 a0 = some q1 ∧
  (am_K h q1 = 1 ∧ ∃ (Q3 : Option Nat → am_H → Prop) (X3 : String → am_H → Prop), am_Ct tt 3 [.ref q1, .int a1] h (am_pR Q3 X3) ∧ ((∀ q4 h2, Q3 (some q4) h2 →
   ((a2 = (Int32.ofNat 0) →
    ((¬ a2 = (Int32.ofNat 0) →
     (am_K h2 a0 = 10 ∧ ∃ q5, am_R h2 9 0 a0 = some q5 ∧
     (am_K h2 q5 = 1 ∧ ∃ (Q7 : Int32 → am_H → Prop) (X7 : String → am_H → Prop), am_Ct tt 6 [.ref q5, .ref q4] h2 (am_pI Q7 X7) ∧ (∀ x8 h6, Q7 x8 h6 →
      ((¬ x8 = (Int32.ofNat 0) →
       Q (-1 : Int32) h6) ∧
      (¬ (¬ x8 = (Int32.ofNat 0)) →
       ((a3 < (Int32.ofNat 0) →
        Q (-1 : Int32) h6) ∧
       (¬ (a3 < (Int32.ofNat 0)) →
        (am_K h6 q4 = 5 ∧
        ((a3 < (am_I h6 4 3 q4) →
         (am_K h6 q4 = 5 ∧ ∃ q9, am_R h6 4 2 q4 = some q9 ∧
         ((am_K h6 q9 = 23 ∨ am_K h6 q9 = 24) ∧ vp_in a3 (am_N h6 q9) ∧
         Q ((am_A h6 q9 (a3).toNatClampNeg) &&& (Int32.ofNat 255)) h6))) ∧
        (¬ (a3 < (am_I h6 4 3 q4)) →
         Q (-1 : Int32) h6)))))))) ∧ (∀ E10 h6, X7 E10 h6 → Qx E10 h6)))) ∧
    (¬ (¬ a2 = (Int32.ofNat 0)) →
     ((a3 < (Int32.ofNat 0) →
      Q (-1 : Int32) h2) ∧
     (¬ (a3 < (Int32.ofNat 0)) →
      (am_K h2 q4 = 5 ∧
      (((am_I h2 4 1 q4) ≤ a3 →
       Q (-1 : Int32) h2) ∧
      (¬ ((am_I h2 4 1 q4) ≤ a3) →
       (am_K h2 q4 = 5 ∧ ∃ q11, am_R h2 4 0 q4 = some q11 ∧
       (am_K h2 q11 = 25 ∧ vp_in a3 (am_N h2 q11) ∧
       Q (am_A h2 q11 (a3).toNatClampNeg) h2)))))))))) ∧
   (¬ (a2 = (Int32.ofNat 0)) →
    ((a2 = (Int32.ofNat 1) →
     ((¬ a2 = (Int32.ofNat 0) →
      (am_K h2 a0 = 10 ∧ ∃ q12, am_R h2 9 0 a0 = some q12 ∧
      (am_K h2 q12 = 1 ∧ ∃ (Q14 : Int32 → am_H → Prop) (X14 : String → am_H → Prop), am_Ct tt 6 [.ref q12, .ref q4] h2 (am_pI Q14 X14) ∧ (∀ x15 h13, Q14 x15 h13 →
       ((¬ x15 = (Int32.ofNat 0) →
        Q (-1 : Int32) h13) ∧
       (¬ (¬ x15 = (Int32.ofNat 0)) →
        ((a3 < (Int32.ofNat 0) →
         Q (-1 : Int32) h13) ∧
        (¬ (a3 < (Int32.ofNat 0)) →
         (am_K h13 q4 = 5 ∧
         ((a3 < (am_I h13 4 3 q4) →
          (am_K h13 q4 = 5 ∧ ∃ q16, am_R h13 4 2 q4 = some q16 ∧
          ((am_K h13 q16 = 23 ∨ am_K h13 q16 = 24) ∧ vp_in a3 (am_N h13 q16) ∧
          Q ((am_A h13 q16 (a3).toNatClampNeg) &&& (Int32.ofNat 255)) h13))) ∧
         (¬ (a3 < (am_I h13 4 3 q4)) →
          Q (-1 : Int32) h13)))))))) ∧ (∀ E17 h13, X14 E17 h13 → Qx E17 h13)))) ∧
     (¬ (¬ a2 = (Int32.ofNat 0)) →
      ((a3 < (Int32.ofNat 0) →
       Q (-1 : Int32) h2) ∧
      (¬ (a3 < (Int32.ofNat 0)) →
       (am_K h2 q4 = 5 ∧
       (((am_I h2 4 1 q4) ≤ a3 →
        Q (-1 : Int32) h2) ∧
       (¬ ((am_I h2 4 1 q4) ≤ a3) →
        (am_K h2 q4 = 5 ∧ ∃ q18, am_R h2 4 0 q4 = some q18 ∧
        (am_K h2 q18 = 25 ∧ vp_in a3 (am_N h2 q18) ∧
        Q (am_A h2 q18 (a3).toNatClampNeg) h2)))))))))) ∧
    (¬ (a2 = (Int32.ofNat 1)) →
     Q (-2 : Int32) h2))))) ∧ (∀ h2, Q3 none h2 →
   Q (-2 : Int32) h2)) ∧ (∀ E19 h2, X3 E19 h2 → Qx E19 h2)))) :
  am_Ev tt 117 0 [some (.ref a0), some (.int a1), some (.int a2), some (.int a3), none] [] h (am_pI Q Qx) := am_vc 34 [] q

/-! 118 yX9_coderAt -/
theorem vc_118_0 (tt : Nat → Nat) (a0 : Nat) (a1 : Int32) (a2 : Int32) (h : am_H) (Q : Int32 → am_H → Prop) (Qx : String → am_H → Prop) (q :
  (am_K h a0 = 10 ∧ ∃ q1, am_R h 9 0 a0 = some q1 ∧
  (am_K h q1 = 1 ∧ ∃ (Q3 : Option Nat → am_H → Prop) (X3 : String → am_H → Prop), am_Ct tt 4 [.ref q1, .int a1] h (am_pR Q3 X3) ∧ ((∀ q4 h2, Q3 (some q4) h2 →
   (am_K h2 q4 = 2 ∧
   ((¬ (am_I h2 1 3 q4) = (Int32.ofNat 0) →
    ((¬ a2 = (-1 : Int32) →
     ((a2 < (Int32.ofNat 0) →
      Q (-1 : Int32) h2) ∧
     (¬ (a2 < (Int32.ofNat 0)) →
      (am_K h2 q4 = 2 ∧
      ((a2 < (am_I h2 1 2 q4) →
       (am_K h2 q4 = 2 ∧ ∃ q5, am_R h2 1 0 q4 = some q5 ∧
       ((am_K h2 q5 = 21 ∨ am_K h2 q5 = 31) ∧ vp_in a2 (am_N h2 q5) ∧
       (am_K h2 q4 = 2 ∧ ∃ q6, am_R h2 1 1 q4 = some q6 ∧
       ((am_K h2 q6 = 21 ∨ am_K h2 q6 = 31) ∧ vp_in a2 (am_N h2 q6) ∧
       Q ((am_A h2 q5 (a2).toNatClampNeg) + ((Int32.ofNat 4) * (am_A h2 q6 (a2).toNatClampNeg))) h2))))) ∧
      (¬ (a2 < (am_I h2 1 2 q4)) →
       Q (-1 : Int32) h2)))))) ∧
    (¬ (¬ a2 = (-1 : Int32)) →
     (am_K h2 q4 = 2 ∧
     Q (am_I h2 1 2 q4) h2)))) ∧
   (¬ (¬ (am_I h2 1 3 q4) = (Int32.ofNat 0)) →
    Q (-3 : Int32) h2)))) ∧ (∀ h2, Q3 none h2 →
   Q (-2 : Int32) h2)) ∧ (∀ E7 h2, X3 E7 h2 → Qx E7 h2)))) :
  am_Ev tt 118 0 [some (.ref a0), some (.int a1), some (.int a2), none] [] h (am_pI Q Qx) := am_vc 33 [] q

section PF
variable {tt : Nat → Nat} {P : Nat → Prop} {h h' : am_H} {cd : Nat → Nat} {bb : Nat → Nat → Nat} {wa wt : Nat} {S : sS}
theorem ct_number (q : RC tt P h cd bb wa wt S) {x y : Int32} : am_Ct tt 116 [.ref (cd 0), .int x, .int y] h (am_pL (fun r h' => r = f_number S x y ∧ okC tt P h cd bb wa wt S h') no_x) := by
  have q' := q
  obtain ⟨⟨s1, s2, s3, s4, s5, s6, s7⟩, ⟨v1, v2, v3⟩, q3, q4, q5, q6, q7⟩ := q
  obtain ⟨x1, x2, x3, x4, x5, x6, x7⟩ := s4
  have sa := (s5 wa s1).1
  have n24 := q3.1
  refine vc_116_0 tt _ _ _ h _ _ ?_
  simp (disch := omega) only [x1, x2, sa.1, am_hs, qi_lt, qi_le, qi_eq, qi_nn, qi_in, qi_add, qi_l, ql_i, ql_lt, ql_le, ql_eq, ql_add, qc_lt, qc_eq, qc_ge, qc_gt, qc_le, true_and, and_true, and_self, true_or, or_true, false_or, or_false, false_and, and_false, not_true_eq_false, not_false_eq_true, Classical.not_not, true_implies, false_implies, implies_true, exists_eq_left, exists_eq_left', Option.some.injEq, reduceIte, Nat.reduceEqDiff, Nat.reduceLT, Nat.reduceLeDiff, Nat.reduceAdd, Nat.reduceSub, Nat.reduceMul, eq_self, ne_eq, and_imp, forall_const, reduceCtorEq, am_w, List.map_cons, List.map_nil, List.sum_cons, List.sum_nil, Value.category, Nat.zero_le, Nat.le_refl]
  refine ⟨_, _, ct_find sa v1 q3.1, ⟨fun o k e => ?_, fun k e => ?_⟩, fun _ _ z => z⟩
  · obtain ⟨ek, e⟩ := e
    subst k
    rcases e with ⟨i, hi, rfl, e⟩ | ⟨e, _⟩
    · cases e
      obtain ⟨t1, t2⟩ := sa.2.2.2.2.2.2.2.1 i (by omega)
      obtain ⟨u1, u2, u3, u4, u5, u6, u7, u8⟩ := t2
      obtain ⟨y1, y2, y3, y4, y5, y6, y7, y8, y9, y10, y11, y12⟩ := v2 i hi
      obtain ⟨g1, g2, g3, g4⟩ := q3.2.1 i hi
      have n01 : ¬ Int32.ofNat 0 = Int32.ofNat 1 := by decide
      have n10 : ¬ Int32.ofNat 1 = Int32.ofNat 0 := by decide
      have n20 : ¬ Int32.ofNat 2 = Int32.ofNat 0 := by decide
      have n21 : ¬ Int32.ofNat 2 = Int32.ofNat 1 := by decide
      by_cases c0 : y = Int32.ofNat 0
      · subst c0
        have fE : f_number S (Int32.ofNat i) (Int32.ofNat 0) = (e_tm (a_E S.1 i)).getD (Int64.ofNat 0) := by rw [f_number, ixo_n hi (by omega), ixo_n (by omega) (by omega)]; try rfl
        simp (disch := omega) only [u1, y7, b01_z, am_hs, qi_lt, qi_le, qi_eq, qi_nn, qi_in, qi_add, qi_l, ql_i, ql_lt, ql_le, ql_eq, ql_add, qc_lt, qc_eq, qc_ge, qc_gt, qc_le, true_and, and_true, and_self, true_or, or_true, false_or, or_false, false_and, and_false, not_true_eq_false, not_false_eq_true, Classical.not_not, true_implies, false_implies, implies_true, exists_eq_left, exists_eq_left', Option.some.injEq, reduceIte, Nat.reduceEqDiff, Nat.reduceLT, Nat.reduceLeDiff, Nat.reduceAdd, Nat.reduceSub, Nat.reduceMul, eq_self, ne_eq, and_imp, forall_const, reduceCtorEq, am_w, List.map_cons, List.map_nil, List.sum_cons, List.sum_nil, Value.category, Nat.zero_le, Nat.le_refl]
        rw [fE]
        cases e : e_tm (a_E S.1 i) with
        | none => exact ⟨fun _ => ⟨rfl, okC.rf q'⟩, fun w => absurd rfl w⟩
        | some t => exact ⟨fun w => absurd w (by simp), fun _ => ⟨y8 t e, okC.rf q'⟩⟩
      · by_cases c1 : y = Int32.ofNat 1
        · subst c1
          have fE : f_number S (Int32.ofNat i) (Int32.ofNat 1) = ((e_av (a_E S.1 i)).getD (Int32.ofNat 0)).toInt64 := by rw [f_number, ixo_n hi (by omega), ixo_n (by omega) (by omega)]; try rfl
          simp (disch := omega) only [u1, y9, n10, b01_z, am_hs, qi_lt, qi_le, qi_eq, qi_nn, qi_in, qi_add, qi_l, ql_i, ql_lt, ql_le, ql_eq, ql_add, qc_lt, qc_eq, qc_ge, qc_gt, qc_le, true_and, and_true, and_self, true_or, or_true, false_or, or_false, false_and, and_false, not_true_eq_false, not_false_eq_true, Classical.not_not, true_implies, false_implies, implies_true, exists_eq_left, exists_eq_left', Option.some.injEq, reduceIte, Nat.reduceEqDiff, Nat.reduceLT, Nat.reduceLeDiff, Nat.reduceAdd, Nat.reduceSub, Nat.reduceMul, eq_self, ne_eq, and_imp, forall_const, reduceCtorEq, am_w, List.map_cons, List.map_nil, List.sum_cons, List.sum_nil, Value.category, Nat.zero_le, Nat.le_refl]
          rw [fE]
          cases e : e_av (a_E S.1 i) with
          | none => exact ⟨fun _ => ⟨by decide, okC.rf q'⟩, fun w => absurd rfl w⟩
          | some t => exact ⟨fun w => absurd w (by simp), fun _ => ⟨by rw [y10 t e]; rfl, okC.rf q'⟩⟩
        · by_cases c2 : y = Int32.ofNat 2
          · subst c2
            have fE : f_number S (Int32.ofNat i) (Int32.ofNat 2) = if lostB S i = true then Int64.ofNat 0 else (ck (e_by (a_E S.1 i)) 0 (e_sz (a_E S.1 i))).toInt64 &&& Int64.ofNat 4294967295 := by rw [f_number, ixo_n hi (by omega), ixo_n (by omega) (by omega)]; try rfl
            simp (disch := omega) only [u1, n20, n21, x1, x2, sa.1, am_hs, qi_lt, qi_le, qi_eq, qi_nn, qi_in, qi_add, qi_l, ql_i, ql_lt, ql_le, ql_eq, ql_add, qc_lt, qc_eq, qc_ge, qc_gt, qc_le, true_and, and_true, and_self, true_or, or_true, false_or, or_false, false_and, and_false, not_true_eq_false, not_false_eq_true, Classical.not_not, true_implies, false_implies, implies_true, exists_eq_left, exists_eq_left', Option.some.injEq, reduceIte, Nat.reduceEqDiff, Nat.reduceLT, Nat.reduceLeDiff, Nat.reduceAdd, Nat.reduceSub, Nat.reduceMul, eq_self, ne_eq, and_imp, forall_const, reduceCtorEq, am_w, List.map_cons, List.map_nil, List.sum_cons, List.sum_nil, Value.category, Nat.zero_le, Nat.le_refl]
            refine ⟨_, _, ct_isLost sa g4 (v3 _ g4) u1 y4 (by omega) y5, fun r k e => ?_, fun _ _ z => z⟩
            obtain ⟨e1, e2⟩ := e
            subst k e2
            simp (disch := omega) only [u1, u5, y4, b01_z, am_hs, qi_lt, qi_le, qi_eq, qi_nn, qi_in, qi_add, qi_l, ql_i, ql_lt, ql_le, ql_eq, ql_add, qc_lt, qc_eq, qc_ge, qc_gt, qc_le, true_and, and_true, and_self, true_or, or_true, false_or, or_false, false_and, and_false, not_true_eq_false, not_false_eq_true, Classical.not_not, true_implies, false_implies, implies_true, exists_eq_left, exists_eq_left', Option.some.injEq, reduceIte, Nat.reduceEqDiff, Nat.reduceLT, Nat.reduceLeDiff, Nat.reduceAdd, Nat.reduceSub, Nat.reduceMul, eq_self, ne_eq, and_imp, forall_const, reduceCtorEq, am_w, List.map_cons, List.map_nil, List.sum_cons, List.sum_nil, Value.category, Nat.zero_le, Nat.le_refl]
            rw [fE]
            have lE : lostB S i = (decide (0 < e_sz (a_E S.1 i)) && !b_kn (a_B S.1 (e_hm (a_E S.1 i)))) := rfl
            rw [← lE]
            refine ⟨fun w => ?_, fun w => ?_⟩
            · rw [Bool.not_eq_false] at w
              rw [if_pos w]
              exact ⟨rfl, okC.rf q'⟩
            · rw [if_neg (by rw [w]; decide)]
              have bs : e_sz (a_E S.1 i) ≤ am_N h (bb wa i) ∧ ∀ j, j < e_sz (a_E S.1 i) → am_A h (bb wa i) j = e_by (a_E S.1 i) j := by
                by_cases c : e_sz (a_E S.1 i) = 0
                · rw [c]; exact ⟨Nat.zero_le _, fun j hj => absurd hj (Nat.not_lt_zero j)⟩
                · refine y12 ?_
                  rw [lE] at w
                  show b_kn _ = true
                  cases hb : b_kn (a_B S.1 (e_hm (a_E S.1 i))) with
                  | true => rfl
                  | false => rw [hb] at w; simp at w; omega
              refine ⟨_, _, ct_checkOf q6 u6 (Nat.zero_le _) bs.1 (by omega), fun r k e => ?_, fun _ _ z => z⟩
              obtain ⟨e1, e2⟩ := e
              subst k e2
              rw [ck_fr (f := am_A h (bb wa i)) (g := e_by (a_E S.1 i)) (fun j _ h2 => bs.2 j (by omega))]
              exact ⟨by rw [Nat.sub_zero], okC.rf q'⟩
          · simp (disch := omega) only [c0, c1, c2, am_hs, qi_lt, qi_le, qi_eq, qi_nn, qi_in, qi_add, qi_l, ql_i, ql_lt, ql_le, ql_eq, ql_add, qc_lt, qc_eq, qc_ge, qc_gt, qc_le, true_and, and_true, and_self, true_or, or_true, false_or, or_false, false_and, and_false, not_true_eq_false, not_false_eq_true, Classical.not_not, true_implies, false_implies, implies_true, exists_eq_left, exists_eq_left', Option.some.injEq, reduceIte, Nat.reduceEqDiff, Nat.reduceLT, Nat.reduceLeDiff, Nat.reduceAdd, Nat.reduceSub, Nat.reduceMul, eq_self, ne_eq, and_imp, forall_const, reduceCtorEq, am_w, List.map_cons, List.map_nil, List.sum_cons, List.sum_nil, Value.category, Nat.zero_le, Nat.le_refl]
            have fE : f_number S (Int32.ofNat i) y = Int64.ofNat 0 := by
              rw [f_number, ixo_n hi (by omega), ixo_no (by omega) (fun j hj => by
                have : j = 0 ∨ j = 1 ∨ j = 2 := by omega
                rcases this with rfl | rfl | rfl
                · exact c0
                · exact c1
                · exact c2)]
            rw [fE]
            exact ⟨rfl, okC.rf q'⟩
    · cases e
  · obtain ⟨ek, e⟩ := e
    subst k
    rcases e with ⟨i, hi, _, e⟩ | ⟨_, e⟩
    · cases e
    · have fE : f_number S x y = Int64.ofNat 0 := by rw [f_number, ixo_no (by omega) e]
      rw [fE]
      exact ⟨rfl, okC.rf q'⟩
theorem ct_at (q : RC tt P h cd bb wa wt S) {x y z : Int32} : am_Ct tt 117 [.ref (cd 0), .int x, .int y, .int z] h (am_pI (fun r h' => r = f_at S x y z ∧ okC tt P h cd bb wa wt S h') no_x) := by
  have q' := q
  obtain ⟨⟨s1, s2, s3, s4, s5, s6, s7⟩, ⟨v1, v2, v3⟩, q3, q4, q5, q6, q7⟩ := q
  obtain ⟨x1, x2, x3, x4, x5, x6, x7⟩ := s4
  have sa := (s5 wa s1).1
  have n24 := q3.1
  refine vc_117_0 tt _ _ _ _ h _ _ ?_
  simp (disch := omega) only [x1, x2, sa.1, am_hs, qi_lt, qi_le, qi_eq, qi_nn, qi_in, qi_add, qi_l, ql_i, ql_lt, ql_le, ql_eq, ql_add, qc_lt, qc_eq, qc_ge, qc_gt, qc_le, true_and, and_true, and_self, true_or, or_true, false_or, or_false, false_and, and_false, not_true_eq_false, not_false_eq_true, Classical.not_not, true_implies, false_implies, implies_true, exists_eq_left, exists_eq_left', Option.some.injEq, reduceIte, Nat.reduceEqDiff, Nat.reduceLT, Nat.reduceLeDiff, Nat.reduceAdd, Nat.reduceSub, Nat.reduceMul, eq_self, ne_eq, and_imp, forall_const, reduceCtorEq, am_w, List.map_cons, List.map_nil, List.sum_cons, List.sum_nil, Value.category, Nat.zero_le, Nat.le_refl]
  refine ⟨_, _, ct_find sa v1 q3.1, ⟨fun o k e => ?_, fun k e => ?_⟩, fun _ _ z => z⟩
  · obtain ⟨ek, e⟩ := e
    subst k
    rcases e with ⟨i, hi, rfl, e⟩ | ⟨e, _⟩
    · cases e
      obtain ⟨t1, t2⟩ := sa.2.2.2.2.2.2.2.1 i (by omega)
      obtain ⟨u1, u2, u3, u4, u5, u6, u7, u8⟩ := t2
      obtain ⟨y1, y2, y3, y4, y5, y6, y7, y8, y9, y10, y11, y12⟩ := v2 i hi
      obtain ⟨g1, g2, g3, g4⟩ := q3.2.1 i hi
      have n10 : ¬ Int32.ofNat 1 = Int32.ofNat 0 := by decide
      by_cases c0 : y = Int32.ofNat 0
      · subst c0
        have fE : f_at S (Int32.ofNat i) (Int32.ofNat 0) z = (match ixo (e_un (a_E S.1 i)) z with | none => -1 | some j => e_nm (a_E S.1 i) j) := by rw [f_at, ixo_n hi (by omega), ixo_n (by omega) (by omega)]; try rfl
        rcases qi_cases z with hz | ⟨b, hb, rfl⟩
        · simp (disch := omega) only [hz, am_hs, qi_lt, qi_le, qi_eq, qi_nn, qi_in, qi_add, qi_l, ql_i, ql_lt, ql_le, ql_eq, ql_add, qc_lt, qc_eq, qc_ge, qc_gt, qc_le, true_and, and_true, and_self, true_or, or_true, false_or, or_false, false_and, and_false, not_true_eq_false, not_false_eq_true, Classical.not_not, true_implies, false_implies, implies_true, exists_eq_left, exists_eq_left', Option.some.injEq, reduceIte, Nat.reduceEqDiff, Nat.reduceLT, Nat.reduceLeDiff, Nat.reduceAdd, Nat.reduceSub, Nat.reduceMul, eq_self, ne_eq, and_imp, forall_const, reduceCtorEq, am_w, List.map_cons, List.map_nil, List.sum_cons, List.sum_nil, Value.category, Nat.zero_le, Nat.le_refl]
          rw [fE, ixo_neg hz]
          exact ⟨rfl, okC.rf q'⟩
        · simp (disch := omega) only [u1, u2, u3, u4, y2, am_hs, qi_lt, qi_le, qi_eq, qi_nn, qi_in, qi_add, qi_l, ql_i, ql_lt, ql_le, ql_eq, ql_add, qc_lt, qc_eq, qc_ge, qc_gt, qc_le, true_and, and_true, and_self, true_or, or_true, false_or, or_false, false_and, and_false, not_true_eq_false, not_false_eq_true, Classical.not_not, true_implies, false_implies, implies_true, exists_eq_left, exists_eq_left', Option.some.injEq, reduceIte, Nat.reduceEqDiff, Nat.reduceLT, Nat.reduceLeDiff, Nat.reduceAdd, Nat.reduceSub, Nat.reduceMul, eq_self, ne_eq, and_imp, forall_const, reduceCtorEq, am_w, List.map_cons, List.map_nil, List.sum_cons, List.sum_nil, Value.category, Nat.zero_le, Nat.le_refl]
          refine ⟨by omega, fun _ => ⟨fun w => ?_, fun w => ⟨by omega, ?_⟩⟩⟩
          · rw [fE, ixo_ge hb w]; exact ⟨rfl, okC.rf q'⟩
          · rw [fE, ixo_n (by omega) (by omega)]
            exact ⟨y3 b (by omega), okC.rf q'⟩
      · by_cases c1 : y = Int32.ofNat 1
        · subst c1
          have fE : f_at S (Int32.ofNat i) (Int32.ofNat 1) z = if lostB S i = true then -1 else (match ixo (e_sz (a_E S.1 i)) z with | none => -1 | some j => e_by (a_E S.1 i) j &&& Int32.ofNat 255) := by rw [f_at, ixo_n hi (by omega), ixo_n (by omega) (by omega)]; try rfl
          simp (disch := omega) only [u1, n10, x1, x2, sa.1, am_hs, qi_lt, qi_le, qi_eq, qi_nn, qi_in, qi_add, qi_l, ql_i, ql_lt, ql_le, ql_eq, ql_add, qc_lt, qc_eq, qc_ge, qc_gt, qc_le, true_and, and_true, and_self, true_or, or_true, false_or, or_false, false_and, and_false, not_true_eq_false, not_false_eq_true, Classical.not_not, true_implies, false_implies, implies_true, exists_eq_left, exists_eq_left', Option.some.injEq, reduceIte, Nat.reduceEqDiff, Nat.reduceLT, Nat.reduceLeDiff, Nat.reduceAdd, Nat.reduceSub, Nat.reduceMul, eq_self, ne_eq, and_imp, forall_const, reduceCtorEq, am_w, List.map_cons, List.map_nil, List.sum_cons, List.sum_nil, Value.category, Nat.zero_le, Nat.le_refl]
          refine ⟨_, _, ct_isLost sa g4 (v3 _ g4) u1 y4 (by omega) y5, fun r k e => ?_, fun _ _ z => z⟩
          obtain ⟨e1, e2⟩ := e
          subst k e2
          have lE : lostB S i = (decide (0 < e_sz (a_E S.1 i)) && !b_kn (a_B S.1 (e_hm (a_E S.1 i)))) := rfl
          rw [← lE]
          simp only [b01_z]
          refine ⟨fun w => ?_, fun w => ?_⟩
          · rw [Bool.not_eq_false] at w
            rw [fE, if_pos w]
            exact ⟨rfl, okC.rf q'⟩
          · have w : lostB S i = false := by first | exact w | exact Classical.not_not.1 w
            rw [fE, if_neg (by rw [w]; decide)]
            have bs : e_sz (a_E S.1 i) ≤ am_N h (bb wa i) ∧ ∀ j, j < e_sz (a_E S.1 i) → am_A h (bb wa i) j = e_by (a_E S.1 i) j := by
              by_cases c : e_sz (a_E S.1 i) = 0
              · rw [c]; exact ⟨Nat.zero_le _, fun j hj => absurd hj (Nat.not_lt_zero j)⟩
              · refine y12 ?_
                rw [lE] at w
                show b_kn _ = true
                cases hb : b_kn (a_B S.1 (e_hm (a_E S.1 i))) with
                | true => rfl
                | false => rw [hb] at w; simp at w; omega
            rcases qi_cases z with hz | ⟨b, hb, rfl⟩
            · rw [ixo_neg hz]
              exact ⟨fun _ => ⟨rfl, okC.rf q'⟩, fun w => absurd hz w⟩
            · simp (disch := omega) only [u1, u5, u6, y4, am_hs, qi_lt, qi_le, qi_eq, qi_nn, qi_in, qi_add, qi_l, ql_i, ql_lt, ql_le, ql_eq, ql_add, qc_lt, qc_eq, qc_ge, qc_gt, qc_le, true_and, and_true, and_self, true_or, or_true, false_or, or_false, false_and, and_false, not_true_eq_false, not_false_eq_true, Classical.not_not, true_implies, false_implies, implies_true, exists_eq_left, exists_eq_left', Option.some.injEq, reduceIte, Nat.reduceEqDiff, Nat.reduceLT, Nat.reduceLeDiff, Nat.reduceAdd, Nat.reduceSub, Nat.reduceMul, eq_self, ne_eq, and_imp, forall_const, reduceCtorEq, am_w, List.map_cons, List.map_nil, List.sum_cons, List.sum_nil, Value.category, Nat.zero_le, Nat.le_refl]
              refine ⟨by omega, fun _ => ⟨fun w => ⟨by omega, ?_⟩, fun w => ?_⟩⟩
              · rw [ixo_n w (by omega)]
                exact ⟨by rw [bs.2 b w], okC.rf q'⟩
              · rw [ixo_ge hb (by omega)]; exact ⟨rfl, okC.rf q'⟩
        · simp (disch := omega) only [c0, c1, am_hs, qi_lt, qi_le, qi_eq, qi_nn, qi_in, qi_add, qi_l, ql_i, ql_lt, ql_le, ql_eq, ql_add, qc_lt, qc_eq, qc_ge, qc_gt, qc_le, true_and, and_true, and_self, true_or, or_true, false_or, or_false, false_and, and_false, not_true_eq_false, not_false_eq_true, Classical.not_not, true_implies, false_implies, implies_true, exists_eq_left, exists_eq_left', Option.some.injEq, reduceIte, Nat.reduceEqDiff, Nat.reduceLT, Nat.reduceLeDiff, Nat.reduceAdd, Nat.reduceSub, Nat.reduceMul, eq_self, ne_eq, and_imp, forall_const, reduceCtorEq, am_w, List.map_cons, List.map_nil, List.sum_cons, List.sum_nil, Value.category, Nat.zero_le, Nat.le_refl]
          have fE : f_at S (Int32.ofNat i) y z = -2 := by
            rw [f_at, ixo_n hi (by omega), ixo_no (by omega) (fun j hj => by
              have : j = 0 ∨ j = 1 := by omega
              rcases this with rfl | rfl
              · exact c0
              · exact c1)]
          rw [fE]
          exact ⟨rfl, okC.rf q'⟩
    · cases e
  · obtain ⟨ek, e⟩ := e
    subst k
    rcases e with ⟨i, hi, _, e⟩ | ⟨_, e⟩
    · cases e
    · have fE : f_at S x y z = -2 := by rw [f_at, ixo_no (by omega) e]
      rw [fE]
      exact ⟨rfl, okC.rf q'⟩
theorem ct_coderAt (q : RC tt P h cd bb wa wt S) {x z : Int32} : am_Ct tt 118 [.ref (cd 0), .int x, .int z] h (am_pI (fun r h' => r = f_coderAt S x z ∧ okC tt P h cd bb wa wt S h') no_x) := by
  have q' := q
  obtain ⟨⟨s1, s2, s3, s4, s5, s6, s7⟩, ⟨v1, v2, v3⟩, q3, q4, q5, q6, q7⟩ := q
  obtain ⟨x1, x2, x3, x4, x5, x6, x7⟩ := s4
  have sa := (s5 wa s1).1
  refine vc_118_0 tt _ _ _ h _ _ ?_
  simp (disch := omega) only [x1, x2, sa.1, am_hs, qi_lt, qi_le, qi_eq, qi_nn, qi_in, qi_add, qi_l, ql_i, ql_lt, ql_le, ql_eq, ql_add, qc_lt, qc_eq, qc_ge, qc_gt, qc_le, true_and, and_true, and_self, true_or, or_true, false_or, or_false, false_and, and_false, not_true_eq_false, not_false_eq_true, Classical.not_not, true_implies, false_implies, implies_true, exists_eq_left, exists_eq_left', Option.some.injEq, reduceIte, Nat.reduceEqDiff, Nat.reduceLT, Nat.reduceLeDiff, Nat.reduceAdd, Nat.reduceSub, Nat.reduceMul, eq_self, ne_eq, and_imp, forall_const, reduceCtorEq, am_w, List.map_cons, List.map_nil, List.sum_cons, List.sum_nil, Value.category, Nat.zero_le, Nat.le_refl]
  refine ⟨_, _, ct_findBlock sa, ⟨fun o k e => ?_, fun k e => ?_⟩, fun _ _ z => z⟩
  · obtain ⟨ek, e⟩ := e
    subst k
    rcases e with ⟨i, hi, rfl, e⟩ | ⟨e, _⟩
    · cases e
      obtain ⟨t1, t2⟩ := sa.2.2.2.2.2.2.2.2 i hi
      obtain ⟨u1, u2, u3, u4, u5, u6, u7⟩ := t2
      obtain ⟨y1, c, y2, y3, y4, y5⟩ := v3 i hi
      have fE : f_coderAt S (Int32.ofNat i) z = if b_kn (a_B S.1 i) = false then -3 else if z = -1 then Int32.ofNat (b_cn (a_B S.1 i)) else match ixo (b_cn (a_B S.1 i)) z with | none => -1 | some j => b_ck (a_B S.1 i) j + Int32.ofNat 4 * b_cd (a_B S.1 i) j := by rw [f_coderAt, ixo_n hi (by omega)]; try rfl
      rw [fE]
      simp (disch := omega) only [u1, y1, y3, b01_z, am_hs, qi_lt, qi_le, qi_eq, qi_nn, qi_in, qi_add, qi_l, ql_i, ql_lt, ql_le, ql_eq, ql_add, qc_lt, qc_eq, qc_ge, qc_gt, qc_le, true_and, and_true, and_self, true_or, or_true, false_or, or_false, false_and, and_false, not_true_eq_false, not_false_eq_true, Classical.not_not, true_implies, false_implies, implies_true, exists_eq_left, exists_eq_left', Option.some.injEq, reduceIte, Nat.reduceEqDiff, Nat.reduceLT, Nat.reduceLeDiff, Nat.reduceAdd, Nat.reduceSub, Nat.reduceMul, eq_self, ne_eq, and_imp, forall_const, reduceCtorEq, am_w, List.map_cons, List.map_nil, List.sum_cons, List.sum_nil, Value.category, Nat.zero_le, Nat.le_refl]
      refine ⟨fun w => ?_, fun w => by rw [if_pos w]; exact ⟨rfl, okC.rf q'⟩⟩
      rw [if_neg w]
      rw [Bool.not_eq_false] at w
      obtain ⟨z1, z2⟩ := y5 w
      subst z1
      refine ⟨fun w2 => ?_, fun w2 => by rw [if_pos w2]; exact ⟨rfl, okC.rf q'⟩⟩
      rw [if_neg w2]
      rcases qi_cases z with hz | ⟨b, hb, rfl⟩
      · rw [ixo_neg hz]
        exact ⟨fun _ => ⟨rfl, okC.rf q'⟩, fun w => absurd hz w⟩
      · simp (disch := omega) only [u1, u2, u3, u4, u5, u6, u7, am_hs, qi_lt, qi_le, qi_eq, qi_nn, qi_in, qi_add, qi_l, ql_i, ql_lt, ql_le, ql_eq, ql_add, qc_lt, qc_eq, qc_ge, qc_gt, qc_le, true_and, and_true, and_self, true_or, or_true, false_or, or_false, false_and, and_false, not_true_eq_false, not_false_eq_true, Classical.not_not, true_implies, false_implies, implies_true, exists_eq_left, exists_eq_left', Option.some.injEq, reduceIte, Nat.reduceEqDiff, Nat.reduceLT, Nat.reduceLeDiff, Nat.reduceAdd, Nat.reduceSub, Nat.reduceMul, eq_self, ne_eq, and_imp, forall_const, reduceCtorEq, am_w, List.map_cons, List.map_nil, List.sum_cons, List.sum_nil, Value.category, Nat.zero_le, Nat.le_refl]
        refine ⟨by omega, fun _ => ⟨fun w => ⟨by omega, by omega, ?_⟩, fun w => ?_⟩⟩
        · rw [ixo_n w (by omega), (z2 b w).1, (z2 b w).2]
          exact ⟨rfl, okC.rf q'⟩
        · rw [ixo_ge hb (by omega)]; exact ⟨rfl, okC.rf q'⟩
    · cases e
  · obtain ⟨ek, e⟩ := e
    subst k
    rcases e with ⟨i, hi, _, e⟩ | ⟨_, e⟩
    · cases e
    · have fE : f_coderAt S x z = -2 := by rw [f_coderAt, ixo_no (by omega) e]
      rw [fE]
      exact ⟨rfl, okC.rf q'⟩
end PF
