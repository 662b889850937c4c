/-! deps: 15g -/
/-! ===== the class's calls: coder, peek, poke, put ===== -/
/-! 108 yX9_coder -/
theorem vc_108_0 (tt : Nat → Nat) (a0 : Nat) (a1 : Int32) (a2 : Int32) (a3 : Int32) (h : am_H) (Q : Int32 → am_H → Prop) (Qx : String → am_H → Prop) (q :
  (am_K h a0 = 10 ∧ ∃ q1, am_R h 9 0 a0 = some q1 ∧
  (am_K h q1 = 1 ∧ ∃ (Q3 : Option Nat → am_H → Prop) (X3 : String → am_H → Prop), am_Ct tt 4 [.ref q1, .int a1] h (am_pR Q3 X3) ∧ ((∀ q4 h2, Q3 (some q4) h2 →
   ((a2 < (Int32.ofNat 0) →
    Q (-2 : Int32) h2) ∧
   (¬ (a2 < (Int32.ofNat 0)) →
    ((a2 ≤ (Int32.ofNat 3) →
     ((¬ a2 = (Int32.ofNat 1) →
      (am_K h2 q4 = 2 ∧
      ((¬ (am_I h2 1 3 q4) = (Int32.ofNat 0) →
       (am_K h2 q4 = 2 ∧
       (((am_I h2 1 2 q4) < (Int32.ofNat 3) →
        (am_K h2 q4 = 2 ∧ ∃ (Q6 : am_H → Prop) (X6 : String → am_H → Prop), am_Ct tt 13 [.ref q4, .int a2, .int a3] h2 (am_pV Q6 X6) ∧ (∀ h5, Q6 h5 →
         (am_K h5 q4 = 2 ∧
         Q (am_I h5 1 2 q4) h5)) ∧ (∀ E7 h5, X6 E7 h5 → Qx E7 h5))) ∧
       (¬ ((am_I h2 1 2 q4) < (Int32.ofNat 3)) →
        Q (-4 : Int32) h2)))) ∧
      (¬ (¬ (am_I h2 1 3 q4) = (Int32.ofNat 0)) →
       Q (-3 : Int32) h2)))) ∧
     (¬ (¬ a2 = (Int32.ofNat 1)) →
      ((a3 < (Int32.ofNat 1) →
       Q (-2 : Int32) h2) ∧
      (¬ (a3 < (Int32.ofNat 1)) →
       ((a3 ≤ (Int32.ofNat 256) →
        (am_K h2 q4 = 2 ∧
        ((¬ (am_I h2 1 3 q4) = (Int32.ofNat 0) →
         (am_K h2 q4 = 2 ∧
         (((am_I h2 1 2 q4) < (Int32.ofNat 3) →
          (am_K h2 q4 = 2 ∧ ∃ (Q9 : am_H → Prop) (X9 : String → am_H → Prop), am_Ct tt 13 [.ref q4, .int a2, .int a3] h2 (am_pV Q9 X9) ∧ (∀ h8, Q9 h8 →
           (am_K h8 q4 = 2 ∧
           Q (am_I h8 1 2 q4) h8)) ∧ (∀ E10 h8, X9 E10 h8 → Qx E10 h8))) ∧
         (¬ ((am_I h2 1 2 q4) < (Int32.ofNat 3)) →
          Q (-4 : Int32) h2)))) ∧
        (¬ (¬ (am_I h2 1 3 q4) = (Int32.ofNat 0)) →
         Q (-3 : Int32) h2)))) ∧
       (¬ (a3 ≤ (Int32.ofNat 256)) →
        Q (-2 : Int32) h2))))))) ∧
    (¬ (a2 ≤ (Int32.ofNat 3)) →
     Q (-2 : Int32) h2))))) ∧ (∀ h2, Q3 none h2 →
   Q (-2 : Int32) h2)) ∧ (∀ E11 h2, X3 E11 h2 → Qx E11 h2)))) :
  am_Ev tt 108 0 [some (.ref a0), some (.int a1), some (.int a2), some (.int a3), none] [] h (am_pI Q Qx) := am_vc 37 [] q

/-! 119 yX9_peek -/
theorem vc_119_0 (tt : Nat → Nat) (a0 : Nat) (a1 : Int64) (h : am_H) (Q : Int32 → am_H → Prop) (Qx : String → am_H → Prop) (q :
  (am_K h a0 = 10 ∧ ∃ q1, am_R h 9 2 a0 = some q1 ∧
  (am_K h q1 = 7 ∧ ∃ (Q3 : Int32 → am_H → Prop) (X3 : String → am_H → Prop), am_Ct tt 67 [.ref q1, .long a1] h (am_pI Q3 X3) ∧ (∀ x4 h2, Q3 x4 h2 →
   ((¬ x4 = (Int32.ofNat 0) →
    (am_K h2 a0 = 10 ∧ ∃ q5, am_R h2 9 2 a0 = some q5 ∧
    (am_K h2 q5 = 7 ∧ ∃ q6, am_R h2 6 0 q5 = some q6 ∧
    ((am_K h2 q6 = 23 ∨ am_K h2 q6 = 24) ∧ vp_in (a1).toInt32 (am_N h2 q6) ∧
    Q ((am_A h2 q6 ((a1).toInt32).toNatClampNeg) &&& (Int32.ofNat 255)) h2)))) ∧
   (¬ (¬ x4 = (Int32.ofNat 0)) →
    (am_U h2 + 1 ≤ am_LC ∧ am_V h2 + 6 ≤ am_LS ∧ Qx "java/lang/ArrayIndexOutOfBoundsException" (am_nX h2))))) ∧ (∀ E7 h2, X3 E7 h2 → Qx E7 h2)))) :
  am_Ev tt 119 0 [some (.ref a0), some (.long a1), none] [] h (am_pI Q Qx) := am_vc 16 [] q

/-! 120 yX9_poke -/
theorem vc_120_0 (tt : Nat → Nat) (a0 : Nat) (a1 : Int64) (a3 : Int32) (h : am_H) (Q : Int32 → am_H → Prop) (Qx : String → am_H → Prop) (q :
  (am_K h a0 = 10 ∧ ∃ q1, am_R h 9 2 a0 = some q1 ∧
  (am_K h q1 = 7 ∧ ∃ (Q3 : Int32 → am_H → Prop) (X3 : String → am_H → Prop), am_Ct tt 67 [.ref q1, .long a1] h (am_pI Q3 X3) ∧ (∀ x4 h2, Q3 x4 h2 →
   ((¬ x4 = (Int32.ofNat 0) →
    ((a3 < (Int32.ofNat 0) →
     (am_U h2 + 1 ≤ am_LC ∧ am_V h2 + 6 ≤ am_LS ∧ Qx "java/lang/IllegalArgumentException" (am_nX h2))) ∧
    (¬ (a3 < (Int32.ofNat 0)) →
     ((a3 ≤ (Int32.ofNat 255) →
      (am_K h2 a0 = 10 ∧ ∃ q5, am_R h2 9 2 a0 = some q5 ∧
      (am_K h2 q5 = 7 ∧ ∃ q6, am_R h2 6 0 q5 = some q6 ∧
      ((am_K h2 q6 = 23 ∨ am_K h2 q6 = 24) ∧ vp_in (a1).toInt32 (am_N h2 q6) ∧
      (am_K h2 a0 = 10 ∧ ∃ q7, am_R h2 9 2 a0 = some q7 ∧
      (am_K h2 q7 = 7 ∧ ∃ q8, am_R h2 6 0 q7 = some q8 ∧
      (vp_in (a1).toInt32 (am_N h2 q8) ∧ ∃ w9, ((am_K h2 q8 = 23 ∧ w9 = ((a3).toInt8.toInt32).toInt8.toInt32) ∨ (am_K h2 q8 = 24 ∧ w9 = ((a3).toInt8.toInt32 &&& 1))) ∧
      Q ((am_A h2 q6 ((a1).toInt32).toNatClampNeg) &&& (Int32.ofNat 255)) (am_sA h2 q8 ((a1).toInt32).toNatClampNeg w9)))))))) ∧
     (¬ (a3 ≤ (Int32.ofNat 255)) →
      (am_U h2 + 1 ≤ am_LC ∧ am_V h2 + 6 ≤ am_LS ∧ Qx "java/lang/IllegalArgumentException" (am_nX h2))))))) ∧
   (¬ (¬ x4 = (Int32.ofNat 0)) →
    (am_U h2 + 1 ≤ am_LC ∧ am_V h2 + 6 ≤ am_LS ∧ Qx "java/lang/ArrayIndexOutOfBoundsException" (am_nX h2))))) ∧ (∀ E10 h2, X3 E10 h2 → Qx E10 h2)))) :
  am_Ev tt 120 0 [some (.ref a0), some (.long a1), none, some (.int a3), none] [] h (am_pI Q Qx) := am_vc 31 [] q

section PG
variable {tt : Nat → Nat} {P : Nat → Prop} {h h' : am_H} {cd : Nat → Nat} {bb : Nat → Nat → Nat} {wa wt : Nat} {S : sS}
theorem ct_coder (q : RC tt P h cd bb wa wt S) {x k d : Int32} : am_Ct tt 108 [.ref (cd 0), .int x, .int k, .int d] h (am_pI (fun r h' => r = (f_coder S x k d).1 ∧ okC tt P h cd bb wa wt (f_coder S x k d).2 h') no_x) := by
  have q' := q
  obtain ⟨⟨s1, s2, s3, s4, s5, s6, s7⟩, ⟨v1, v2, v3⟩, q3, q4, q5, q6, q7⟩ := q
  obtain ⟨x1, x2, x3, x4, x5, x6, x7⟩ := s4
  have sa := (s5 wa s1).1
  refine vc_108_0 tt _ _ _ _ h _ _ ?_
  simp (disch := omega) only [x1, x2, sa.1, am_hs, qi_lt, qi_le, qi_eq, qi_nn, qi_in, qi_add, qi_l, ql_i, ql_lt, ql_le, ql_eq, ql_add, qc_lt, qc_eq, qc_ge, qc_gt, qc_le, true_and, and_true, and_self, true_or, or_true, false_or, or_false, false_and, and_false, not_true_eq_false, not_false_eq_true, Classical.not_not, true_implies, false_implies, implies_true, exists_eq_left, exists_eq_left', Option.some.injEq, reduceIte, Nat.reduceEqDiff, Nat.reduceLT, Nat.reduceLeDiff, Nat.reduceAdd, Nat.reduceSub, Nat.reduceMul, eq_self, ne_eq, and_imp, forall_const, reduceCtorEq, am_w, List.map_cons, List.map_nil, List.sum_cons, List.sum_nil, Value.category, Nat.zero_le, Nat.le_refl]
  refine ⟨_, _, ct_findBlock sa, ⟨fun o k' e => ?_, fun k' e => ?_⟩, fun _ _ z => z⟩
  · obtain ⟨ek, e⟩ := e
    subst k'
    rcases e with ⟨i, hi, rfl, e⟩ | ⟨e, _⟩
    · cases e
      obtain ⟨t1, t2⟩ := sa.2.2.2.2.2.2.2.2 i hi
      obtain ⟨u1, u2, u3, u4, u5, u6, u7⟩ := t2
      obtain ⟨y1, c, y2, y3, y4, y5⟩ := v3 i hi
      obtain ⟨w1, w2⟩ := q3.2.2.1 i hi
      have fE : f_coder S (Int32.ofNat i) k d = if k < Int32.ofNat 0 ∨ Int32.ofNat 3 < k ∨ (k = Int32.ofNat 1 ∧ (d < Int32.ofNat 1 ∨ Int32.ofNat 256 < d)) then (-2, S) else if b_kn (a_B S.1 i) = false then (-3, S)
    else if b_cn (a_B S.1 i) < 3 then (Int32.ofNat (b_cn (a_B S.1 i) + 1), put_B S i (true, b_cn (a_B S.1 i) + 1, va_up (b_ck (a_B S.1 i)) (b_cn (a_B S.1 i)) k, va_up (b_cd (a_B S.1 i)) (b_cn (a_B S.1 i)) (if k = Int32.ofNat 1 then d else Int32.ofNat 0))) else (-4, S) := by rw [f_coder, ixo_n hi (by omega)]
      have bad : (k < Int32.ofNat 0 ∨ Int32.ofNat 3 < k ∨ (k = Int32.ofNat 1 ∧ (d < Int32.ofNat 1 ∨ Int32.ofNat 256 < d))) → (-2 : Int32) = (f_coder S (Int32.ofNat i) k d).1 ∧ okC tt P h cd bb wa wt (f_coder S (Int32.ofNat i) k d).2 h := by
        intro z
        rw [fE, if_pos z]; exact ⟨rfl, okC.rf q'⟩
      have good : (¬ (k < Int32.ofNat 0 ∨ Int32.ofNat 3 < k ∨ (k = Int32.ofNat 1 ∧ (d < Int32.ofNat 1 ∨ Int32.ofNat 256 < d)))) →
          (am_K h (cd (c_bk wa i)) = 2 ∧ ((¬ am_I h 1 3 (cd (c_bk wa i)) = Int32.ofNat 0 → (am_K h (cd (c_bk wa i)) = 2 ∧ ((am_I h 1 2 (cd (c_bk wa i)) < Int32.ofNat 3 → (am_K h (cd (c_bk wa i)) = 2 ∧ ∃ (Q6 : am_H → Prop) (X6 : String → am_H → Prop), am_Ct tt 13 [.ref (cd (c_bk wa i)), .int k, .int d] h (am_pV Q6 X6) ∧ (∀ h5, Q6 h5 → (am_K h5 (cd (c_bk wa i)) = 2 ∧ (am_I h5 1 2 (cd (c_bk wa i)) = (f_coder S (Int32.ofNat i) k d).1 ∧ okC tt P h cd bb wa wt (f_coder S (Int32.ofNat i) k d).2 h5))) ∧ (∀ E7 h5, X6 E7 h5 → no_x E7 h5))) ∧
          (¬ am_I h 1 2 (cd (c_bk wa i)) < Int32.ofNat 3 → ((-4 : Int32) = (f_coder S (Int32.ofNat i) k d).1 ∧ okC tt P h cd bb wa wt (f_coder S (Int32.ofNat i) k d).2 h))))) ∧ (¬ ¬ am_I h 1 3 (cd (c_bk wa i)) = Int32.ofNat 0 → ((-3 : Int32) = (f_coder S (Int32.ofNat i) k d).1 ∧ okC tt P h cd bb wa wt (f_coder S (Int32.ofNat i) k d).2 h)))) := by
        intro z
        rw [fE, if_neg z]
        simp (disch := omega) only [u1, y1, y3, b01_z, am_hs, qi_lt, qi_le, qi_eq, qi_nn, qi_in, qi_add, qi_l, ql_i, ql_lt, ql_le, ql_eq, ql_add, qc_lt, qc_eq, qc_ge, qc_gt, qc_le, true_and, and_true, and_self, true_or, or_true, false_or, or_false, false_and, and_false, not_true_eq_false, not_false_eq_true, Classical.not_not, true_implies, false_implies, implies_true, exists_eq_left, exists_eq_left', Option.some.injEq, reduceIte, Nat.reduceEqDiff, Nat.reduceLT, Nat.reduceLeDiff, Nat.reduceAdd, Nat.reduceSub, Nat.reduceMul, eq_self, ne_eq, and_imp, forall_const, reduceCtorEq, am_w, List.map_cons, List.map_nil, List.sum_cons, List.sum_nil, Value.category, Nat.zero_le, Nat.le_refl]
        refine ⟨fun w => ?_, fun w => by rw [if_pos w]; exact ⟨rfl, okC.rf q'⟩⟩
        rw [if_neg w]
        rw [Bool.not_eq_false] at w
        obtain ⟨z1, z2⟩ := y5 w
        subst z1
        refine ⟨fun c3 => ⟨_, _, ct_addCoder (ka := cd (c_bi wa i)) (da := cd (c_bd wa i)) ⟨u1, u2, u3, u4, u5, u6, u7, y3, w1⟩, fun h5 e => ?_, fun _ _ z => z⟩, fun c3 => by rw [if_neg c3]; exact ⟨rfl, okC.rf q'⟩⟩
        rw [if_pos c3] at e
        subst e
        rw [if_pos c3]
        simp only [u1, am_hs, true_and, and_true, and_self, true_or, or_true, false_or, or_false, false_and, and_false, not_true_eq_false, not_false_eq_true, Classical.not_not, true_implies, false_implies, implies_true, exists_eq_left, exists_eq_left', Option.some.injEq, reduceIte, Nat.reduceEqDiff, Nat.reduceLT, Nat.reduceLeDiff, Nat.reduceAdd, Nat.reduceSub, Nat.reduceMul, eq_self, ne_eq, and_imp, forall_const, reduceCtorEq, am_w, List.map_cons, List.map_nil, List.sum_cons, List.sum_nil, Value.category, Nat.zero_le, Nat.le_refl]
        have gk : ∀ c, c < b_cn (a_B S.1 i) + 1 → (∃ k', k' < 4 ∧ va_up (b_ck (a_B S.1 i)) (b_cn (a_B S.1 i)) k c = Int32.ofNat k') ∧ (va_up (b_ck (a_B S.1 i)) (b_cn (a_B S.1 i)) k c = Int32.ofNat 1 → ∃ d', va_up (b_cd (a_B S.1 i)) (b_cn (a_B S.1 i)) (if k = Int32.ofNat 1 then d else Int32.ofNat 0) c = Int32.ofNat d' ∧ 1 ≤ d' ∧ d' ≤ 256) ∧ (¬ va_up (b_ck (a_B S.1 i)) (b_cn (a_B S.1 i)) k c = Int32.ofNat 1 → va_up (b_cd (a_B S.1 i)) (b_cn (a_B S.1 i)) (if k = Int32.ofNat 1 then d else Int32.ofNat 0) c = Int32.ofNat 0) := by
          intro c hc
          unfold va_up
          by_cases e : c = b_cn (a_B S.1 i)
          · rw [if_pos e, if_pos e]
            obtain ⟨k', hk', rfl⟩ := qi_ge0 k (fun w => z (Or.inl w))
            refine ⟨⟨k', ?_, rfl⟩, fun e1 => ?_, fun e1 => by rw [if_neg e1]⟩
            · have : ¬ Int32.ofNat 3 < Int32.ofNat k' := fun w => z (Or.inr (Or.inl w))
              simp (disch := omega) only [qi_lt, qi_le, qi_eq, qi_nn, qi_in, qi_add, qi_l, ql_i, ql_lt, ql_le, ql_eq, ql_add, qc_lt, qc_eq, qc_ge, qc_gt, qc_le] at this
              omega
            · rw [if_pos e1]
              have z3 : ¬ (d < Int32.ofNat 1 ∨ Int32.ofNat 256 < d) := fun w => z (Or.inr (Or.inr ⟨e1, w⟩))
              rcases qi_cases d with hd | ⟨d', hd', rfl⟩
              · exact absurd (Int32.lt_trans hd (by decide)) (fun w => z3 (Or.inl w))
              · simp (disch := omega) only [qi_lt, qi_le, qi_eq, qi_nn, qi_in, qi_add, qi_l, ql_i, ql_lt, ql_le, ql_eq, ql_add, qc_lt, qc_eq, qc_ge, qc_gt, qc_le] at z3
                exact ⟨d', rfl, by omega, by omega⟩
          · rw [if_neg e, if_neg e]
            exact w2 w c (by omega)
        have up := q'.upB (h' := am_sI (am_sA (am_sA h (cd (c_bi wa i)) (b_cn (a_B S.1 i)) k) (cd (c_bd wa i)) (b_cn (a_B S.1 i)) (if k = Int32.ofNat 1 then d else Int32.ofNat 0)) 1 2 (cd (c_bk wa i)) (Int32.ofNat (b_cn (a_B S.1 i) + 1))) hi (b' := (true, b_cn (a_B S.1 i) + 1, va_up (b_ck (a_B S.1 i)) (b_cn (a_B S.1 i)) k, va_up (b_cd (a_B S.1 i)) (b_cn (a_B S.1 i)) (if k = Int32.ofNat 1 then d else Int32.ofNat 0))) rfl rfl rfl rfl (fun c f a z => by simp only [am_hs]; rw [if_neg (fun w => z ⟨w.1, w.2.2⟩)]) rfl (fun a z z2 => by funext j; simp only [am_hs]; rw [if_neg (fun w => z2 w.1), if_neg (fun w => z w.1)]) rfl ?_ w.symm ⟨by show b_cn (a_B S.1 i) + 1 ≤ 3; omega, fun _ c hc => gk c hc⟩
        · exact ⟨up.1, up.2, rfl, rfl, rfl⟩
        · have rows : ∀ j, j < b_cn (a_B S.1 i) + 1 → am_A (am_sI (am_sA (am_sA h (cd (c_bi wa i)) (b_cn (a_B S.1 i)) k) (cd (c_bd wa i)) (b_cn (a_B S.1 i)) (if k = Int32.ofNat 1 then d else Int32.ofNat 0)) 1 2 (cd (c_bk wa i)) (Int32.ofNat (b_cn (a_B S.1 i) + 1))) (cd (c_bi wa i)) j = va_up (b_ck (a_B S.1 i)) (b_cn (a_B S.1 i)) k j ∧ am_A (am_sI (am_sA (am_sA h (cd (c_bi wa i)) (b_cn (a_B S.1 i)) k) (cd (c_bd wa i)) (b_cn (a_B S.1 i)) (if k = Int32.ofNat 1 then d else Int32.ofNat 0)) 1 2 (cd (c_bk wa i)) (Int32.ofNat (b_cn (a_B S.1 i) + 1))) (cd (c_bd wa i)) j = va_up (b_cd (a_B S.1 i)) (b_cn (a_B S.1 i)) (if k = Int32.ofNat 1 then d else Int32.ofNat 0) j := by
            intro j hj
            simp only [am_hs, ci_id s3, ci_di s3, true_and, and_true, and_self, true_or, or_true, false_or, or_false, false_and, and_false, not_true_eq_false, not_false_eq_true, Classical.not_not, true_implies, false_implies, implies_true, exists_eq_left, exists_eq_left', Option.some.injEq, reduceIte, Nat.reduceEqDiff, Nat.reduceLT, Nat.reduceLeDiff, Nat.reduceAdd, Nat.reduceSub, Nat.reduceMul, eq_self, ne_eq, and_imp, forall_const, reduceCtorEq, am_w, List.map_cons, List.map_nil, List.sum_cons, List.sum_nil, Value.category, Nat.zero_le, Nat.le_refl, va_up]
            by_cases e : j = b_cn (a_B S.1 i)
            · simp only [e, true_and, and_true, and_self, true_or, or_true, false_or, or_false, false_and, and_false, not_true_eq_false, not_false_eq_true, Classical.not_not, true_implies, false_implies, implies_true, exists_eq_left, exists_eq_left', Option.some.injEq, reduceIte, Nat.reduceEqDiff, Nat.reduceLT, Nat.reduceLeDiff, Nat.reduceAdd, Nat.reduceSub, Nat.reduceMul, eq_self, ne_eq, and_imp, forall_const, reduceCtorEq, am_w, List.map_cons, List.map_nil, List.sum_cons, List.sum_nil, Value.category, Nat.zero_le, Nat.le_refl]
            · simp only [e, true_and, and_true, and_self, true_or, or_true, false_or, or_false, false_and, and_false, not_true_eq_false, not_false_eq_true, Classical.not_not, true_implies, false_implies, implies_true, exists_eq_left, exists_eq_left', Option.some.injEq, reduceIte, Nat.reduceEqDiff, Nat.reduceLT, Nat.reduceLeDiff, Nat.reduceAdd, Nat.reduceSub, Nat.reduceMul, eq_self, ne_eq, and_imp, forall_const, reduceCtorEq, am_w, List.map_cons, List.map_nil, List.sum_cons, List.sum_nil, Value.category, Nat.zero_le, Nat.le_refl]
              exact z2 j (by omega)
          refine ⟨by simp only [am_hs, true_and, and_true, and_self, true_or, or_true, false_or, or_false, false_and, and_false, not_true_eq_false, not_false_eq_true, Classical.not_not, true_implies, false_implies, implies_true, exists_eq_left, exists_eq_left', Option.some.injEq, reduceIte, Nat.reduceEqDiff, Nat.reduceLT, Nat.reduceLeDiff, Nat.reduceAdd, Nat.reduceSub, Nat.reduceMul, eq_self, ne_eq, and_imp, forall_const, reduceCtorEq, am_w, List.map_cons, List.map_nil, List.sum_cons, List.sum_nil, Value.category, Nat.zero_le, Nat.le_refl]; rw [y1, w]; rfl, b_cn (a_B S.1 i) + 1, by omega, by simp only [am_hs, true_and, and_true, and_self, true_or, or_true, false_or, or_false, false_and, and_false, not_true_eq_false, not_false_eq_true, Classical.not_not, true_implies, false_implies, implies_true, exists_eq_left, exists_eq_left', Option.some.injEq, reduceIte, Nat.reduceEqDiff, Nat.reduceLT, Nat.reduceLeDiff, Nat.reduceAdd, Nat.reduceSub, Nat.reduceMul, eq_self, ne_eq, and_imp, forall_const, reduceCtorEq, am_w, List.map_cons, List.map_nil, List.sum_cons, List.sum_nil, Value.category, Nat.zero_le, Nat.le_refl], fun c hc => ?_, fun _ => ⟨rfl, rows⟩⟩
          rw [(rows c hc).1, (rows c hc).2]
          exact (gk c hc).2.1
      refine ⟨fun z => bad (Or.inl z), fun z => ⟨fun z2 => ⟨fun z3 => ?_, fun z3 => ?_⟩, fun z2 => bad (Or.inr (Or.inl (Int32.not_le.1 z2)))⟩⟩
      · have g := good (fun w => by
          rcases w with w | w | w
          · exact z w
          · exact absurd z2 (Int32.not_le.2 w)
          · exact z3 w.1)
        simpa (disch := omega) only [true_and, and_true, and_self, true_or, or_true, false_or, or_false, false_and, and_false, not_true_eq_false, not_false_eq_true, Classical.not_not, true_implies, false_implies, implies_true, exists_eq_left, exists_eq_left', Option.some.injEq, reduceIte, Nat.reduceEqDiff, Nat.reduceLT, Nat.reduceLeDiff, Nat.reduceAdd, Nat.reduceSub, Nat.reduceMul, eq_self, ne_eq, and_imp, forall_const, reduceCtorEq, am_w, List.map_cons, List.map_nil, List.sum_cons, List.sum_nil, Value.category, Nat.zero_le, Nat.le_refl] using g
      · have z3 : k = Int32.ofNat 1 := by first | exact z3 | exact Classical.not_not.1 z3
        refine ⟨fun z4 => bad (Or.inr (Or.inr ⟨z3, Or.inl z4⟩)), fun z4 => ⟨fun z5 => ?_, fun z5 => bad (Or.inr (Or.inr ⟨z3, Or.inr (Int32.not_le.1 z5)⟩))⟩⟩
        have g := good (fun w => by
          rcases w with w | w | w
          · exact z w
          · exact absurd z2 (Int32.not_le.2 w)
          · rcases w.2 with w | w
            · exact z4 w
            · exact absurd z5 (Int32.not_le.2 w))
        simpa (disch := omega) only [true_and, and_true, and_self, true_or, or_true, false_or, or_false, false_and, and_false, not_true_eq_false, not_false_eq_true, Classical.not_not, true_implies, false_implies, implies_true, exists_eq_left, exists_eq_left', Option.some.injEq, reduceIte, Nat.reduceEqDiff, Nat.reduceLT, Nat.reduceLeDiff, Nat.reduceAdd, Nat.reduceSub, Nat.reduceMul, eq_self, ne_eq, and_imp, forall_const, reduceCtorEq, am_w, List.map_cons, List.map_nil, List.sum_cons, List.sum_nil, Value.category, Nat.zero_le, Nat.le_refl] using g
    · cases e
  · obtain ⟨ek, e⟩ := e
    subst k'
    rcases e with ⟨i, hi, _, e⟩ | ⟨_, e⟩
    · cases e
    · have fE : f_coder S x k d = (-2, S) := by rw [f_coder, ixo_no (by omega) e]
      rw [fE]
      exact ⟨rfl, okC.rf q'⟩
theorem inT_t {i : Int64} : inT S i = true → S.2.1 ≤ 5000 → ∃ k, k < S.2.1 ∧ i = Int64.ofNat k := by
  intro e hn
  unfold inT at e
  rw [decide_eq_true_iff] at e
  obtain ⟨k, hk, rfl⟩ := ql_ge0 i e.1
  have := e.2
  simp (disch := omega) only [qi_lt, qi_le, qi_eq, qi_nn, qi_in, qi_add, qi_l, ql_i, ql_lt, ql_le, ql_eq, ql_add, qc_lt, qc_eq, qc_ge, qc_gt, qc_le] at this
  exact ⟨k, this, rfl⟩
theorem ct_peek (q : RC tt P h cd bb wa wt S) {i : Int64} (hU : am_U h + 1 ≤ am_LC) (hV : am_V h + 6 ≤ am_LS) : am_Ct tt 119 [.ref (cd 0), .long i] h (am_pI (fun r h' => inT S i = true ∧ r = S.2.2.1 i.toNatClampNeg &&& Int32.ofNat 255 ∧ h' = h) (fun E h' => E = "java/lang/ArrayIndexOutOfBoundsException" ∧ inT S i = false ∧ h' = am_nX h)) := by
  obtain ⟨⟨s1, s2, s3, s4, s5, s6, s7⟩, ⟨v1, v2, v3⟩, q3, q4, q5, q6, q7⟩ := q
  obtain ⟨x1, x2, x3, x4, x5, x6, x7⟩ := s4
  obtain ⟨t1, t2, t3, t4⟩ := (s5 wt s2).2
  have n5 := q4.2.1
  refine vc_119_0 tt _ _ h _ _ ?_
  simp (disch := omega) only [x1, x4, t1, am_hs, qi_lt, qi_le, qi_eq, qi_nn, qi_in, qi_add, qi_l, ql_i, ql_lt, ql_le, ql_eq, ql_add, qc_lt, qc_eq, qc_ge, qc_gt, qc_le, true_and, and_true, and_self, true_or, or_true, false_or, or_false, false_and, and_false, not_true_eq_false, not_false_eq_true, Classical.not_not, true_implies, false_implies, implies_true, exists_eq_left, exists_eq_left', Option.some.injEq, reduceIte, Nat.reduceEqDiff, Nat.reduceLT, Nat.reduceLeDiff, Nat.reduceAdd, Nat.reduceSub, Nat.reduceMul, eq_self, ne_eq, and_imp, forall_const, reduceCtorEq, am_w, List.map_cons, List.map_nil, List.sum_cons, List.sum_nil, Value.category, Nat.zero_le, Nat.le_refl]
  refine ⟨_, _, ct_holds t1 q4.1 q4.2.1, fun r k e => ?_, fun _ _ z => z.elim⟩
  obtain ⟨e1, e2⟩ := e
  subst k
  have c : inT S i = decide (¬ i < Int64.ofNat 0 ∧ i < Int64.ofNat S.2.1) := rfl
  by_cases z : ¬ i < Int64.ofNat 0 ∧ i < Int64.ofNat S.2.1
  · rw [if_pos z] at e2
    subst e2
    rw [decide_eq_true z] at c
    obtain ⟨k, hk, rfl⟩ := inT_t c n5
    simp (disch := omega) only [x1, x4, t1, t2, t3, t4, Int64.toNatClampNeg_ofNat_of_lt, am_hs, qi_lt, qi_le, qi_eq, qi_nn, qi_in, qi_add, qi_l, ql_i, ql_lt, ql_le, ql_eq, ql_add, qc_lt, qc_eq, qc_ge, qc_gt, qc_le, true_and, and_true, and_self, true_or, or_true, false_or, or_false, false_and, and_false, not_true_eq_false, not_false_eq_true, Classical.not_not, true_implies, false_implies, implies_true, exists_eq_left, exists_eq_left', Option.some.injEq, reduceIte, Nat.reduceEqDiff, Nat.reduceLT, Nat.reduceLeDiff, Nat.reduceAdd, Nat.reduceSub, Nat.reduceMul, eq_self, ne_eq, and_imp, forall_const, reduceCtorEq, am_w, List.map_cons, List.map_nil, List.sum_cons, List.sum_nil, Value.category, Nat.zero_le, Nat.le_refl]
    exact ⟨by omega, c, by rw [(q4.2.2 k hk).1]⟩
  · rw [if_neg z] at e2
    subst e2
    rw [decide_eq_false z] at c
    simp (disch := omega) only [am_hs, qi_lt, qi_le, qi_eq, qi_nn, qi_in, qi_add, qi_l, ql_i, ql_lt, ql_le, ql_eq, ql_add, qc_lt, qc_eq, qc_ge, qc_gt, qc_le, true_and, and_true, and_self, true_or, or_true, false_or, or_false, false_and, and_false, not_true_eq_false, not_false_eq_true, Classical.not_not, true_implies, false_implies, implies_true, exists_eq_left, exists_eq_left', Option.some.injEq, reduceIte, Nat.reduceEqDiff, Nat.reduceLT, Nat.reduceLeDiff, Nat.reduceAdd, Nat.reduceSub, Nat.reduceMul, eq_self, ne_eq, and_imp, forall_const, reduceCtorEq, am_w, List.map_cons, List.map_nil, List.sum_cons, List.sum_nil, Value.category, Nat.zero_le, Nat.le_refl]
    exact ⟨hU, hV, c⟩
def f_poke (s : sS) (i : Int64) (v : Int32) : sS := put_T s s.2.1 (va_up s.2.2.1 i.toNatClampNeg (by8 v))
theorem ct_poke (q : RC tt P h cd bb wa wt S) {i : Int64} {v : Int32} (hU : am_U h + 1 ≤ am_LC) (hV : am_V h + 6 ≤ am_LS) : am_Ct tt 120 [.ref (cd 0), .long i, .int v] h (am_pI (fun r h' => inT S i = true ∧ ¬ v < Int32.ofNat 0 ∧ v ≤ Int32.ofNat 255 ∧ r = S.2.2.1 i.toNatClampNeg &&& Int32.ofNat 255 ∧ okC tt P h cd bb wa wt (f_poke S i v) h') (fun E h' => (E = "java/lang/ArrayIndexOutOfBoundsException" ∧ inT S i = false ∧ h' = am_nX h) ∨ (E = "java/lang/IllegalArgumentException" ∧ inT S i = true ∧ (v < Int32.ofNat 0 ∨ ¬ v ≤ Int32.ofNat 255) ∧ h' = am_nX h))) := by
  have q' := q
  obtain ⟨⟨s1, s2, s3, s4, s5, s6, s7⟩, ⟨v1, v2, v3⟩, q3, q4, q5, q6, q7⟩ := q
  obtain ⟨x1, x2, x3, x4, x5, x6, x7⟩ := s4
  obtain ⟨t1, t2, t3, t4⟩ := (s5 wt s2).2
  have n5 := q4.2.1
  refine vc_120_0 tt _ _ _ h _ _ ?_
  simp (disch := omega) only [x1, x4, t1, am_hs, qi_lt, qi_le, qi_eq, qi_nn, qi_in, qi_add, qi_l, ql_i, ql_lt, ql_le, ql_eq, ql_add, qc_lt, qc_eq, qc_ge, qc_gt, qc_le, true_and, and_true, and_self, true_or, or_true, false_or, or_false, false_and, and_false, not_true_eq_false, not_false_eq_true, Classical.not_not, true_implies, false_implies, implies_true, exists_eq_left, exists_eq_left', Option.some.injEq, reduceIte, Nat.reduceEqDiff, Nat.reduceLT, Nat.reduceLeDiff, Nat.reduceAdd, Nat.reduceSub, Nat.reduceMul, eq_self, ne_eq, and_imp, forall_const, reduceCtorEq, am_w, List.map_cons, List.map_nil, List.sum_cons, List.sum_nil, Value.category, Nat.zero_le, Nat.le_refl]
  refine ⟨_, _, ct_holds t1 q4.1 q4.2.1, fun r k e => ?_, fun _ _ z => z.elim⟩
  obtain ⟨e1, e2⟩ := e
  subst k
  have c : inT S i = decide (¬ i < Int64.ofNat 0 ∧ i < Int64.ofNat S.2.1) := rfl
  by_cases z : ¬ i < Int64.ofNat 0 ∧ i < Int64.ofNat S.2.1
  · rw [if_pos z] at e2
    subst e2
    rw [decide_eq_true z] at c
    obtain ⟨k, hk, rfl⟩ := inT_t c n5
    have kn : (Int64.ofNat k).toNatClampNeg = k := Int64.toNatClampNeg_ofNat_of_lt (by omega)
    simp (disch := omega) only [x1, x4, t1, t2, t3, t4, kn, c, am_hs, qi_lt, qi_le, qi_eq, qi_nn, qi_in, qi_add, qi_l, ql_i, ql_lt, ql_le, ql_eq, ql_add, qc_lt, qc_eq, qc_ge, qc_gt, qc_le, true_and, and_true, and_self, true_or, or_true, false_or, or_false, false_and, and_false, not_true_eq_false, not_false_eq_true, Classical.not_not, true_implies, false_implies, implies_true, exists_eq_left, exists_eq_left', Option.some.injEq, reduceIte, Nat.reduceEqDiff, Nat.reduceLT, Nat.reduceLeDiff, Nat.reduceAdd, Nat.reduceSub, Nat.reduceMul, eq_self, ne_eq, and_imp, forall_const, reduceCtorEq, am_w, List.map_cons, List.map_nil, List.sum_cons, List.sum_nil, Value.category, Nat.zero_le, Nat.le_refl]
    refine ⟨fun z => ⟨hU, hV, Or.inl z⟩, fun z => ⟨fun z2 => ⟨by omega, ?_⟩, fun z2 => ⟨hU, hV, Or.inr z2⟩⟩⟩
    rw [(q4.2.2 k hk).1, q8_8]
    refine ⟨by omega, z, z2, rfl, ?_⟩
    have : am_sA h (cd (c_tb wt)) k (by8 v) = am_cA h (cd (c_tb wt)) (va_up (am_A h (cd (c_tb wt))) k (by8 v)) := by
      rw [← cA_sA, cA_id]
    show okC tt P h cd bb wa wt (f_poke S (Int64.ofNat k) v) (am_sA h (cd (c_tb wt)) k (by8 v))
    rw [this]
    unfold f_poke
    rw [kn]
    refine q'.upS (fun j hj => ?_)
    unfold va_up
    split
    · exact ⟨rfl, by unfold by8; rw [q8_8]⟩
    · exact q4.2.2 j hj
  · rw [if_neg z] at e2
    subst e2
    rw [decide_eq_false z] at c
    simp (disch := omega) only [c, am_hs, qi_lt, qi_le, qi_eq, qi_nn, qi_in, qi_add, qi_l, ql_i, ql_lt, ql_le, ql_eq, ql_add, qc_lt, qc_eq, qc_ge, qc_gt, qc_le, true_and, and_true, and_self, true_or, or_true, false_or, or_false, false_and, and_false, not_true_eq_false, not_false_eq_true, Classical.not_not, true_implies, false_implies, implies_true, exists_eq_left, exists_eq_left', Option.some.injEq, reduceIte, Nat.reduceEqDiff, Nat.reduceLT, Nat.reduceLeDiff, Nat.reduceAdd, Nat.reduceSub, Nat.reduceMul, eq_self, ne_eq, and_imp, forall_const, reduceCtorEq, am_w, List.map_cons, List.map_nil, List.sum_cons, List.sum_nil, Value.category, Nat.zero_le, Nat.le_refl]
    exact ⟨hU, hV⟩
end PG
