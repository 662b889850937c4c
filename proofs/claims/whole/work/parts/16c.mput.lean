/-! deps: 16b -/
/-! ===== the reference's calls: put, block ===== -/
/-! 138 yX10_put -/
theorem vc_138_0 (tt : Nat → Nat) (a0 : Nat) (a1 : Int32) (a2 : Int64) (a4 : Int32) (h : am_H) (Q : Int32 → am_H → Prop) (Qx : String → am_H → Prop) (q :
  (am_K h a0 = 11 ∧
  (am_K h a0 = 11 ∧ ∃ (Q2 : Int32 → am_H → Prop) (X2 : String → am_H → Prop), am_Ct tt 134 [.ref a0, .int a1] (am_sI h 10 0 a0 (Int32.ofNat 0)) (am_pI Q2 X2) ∧ (∀ x3 h1, Q2 x3 h1 →
   ((x3 = (Int32.ofNat 0) →
    Q (-2 : Int32) h1) ∧
   (¬ (x3 = (Int32.ofNat 0)) →
    (am_K h1 a0 = 11 ∧ ∃ q4, am_R h1 10 2 a0 = some q4 ∧
    ((am_K h1 q4 = 21 ∨ am_K h1 q4 = 31) ∧ vp_in a1 (am_N h1 q4) ∧
    (((am_A h1 q4 (a1).toNatClampNeg) = (Int32.ofNat 1) →
     Q (-2 : Int32) h1) ∧
    (¬ ((am_A h1 q4 (a1).toNatClampNeg) = (Int32.ofNat 1)) →
     (∃ (Q6 : Int32 → am_H → Prop) (X6 : String → am_H → Prop), am_Ct tt 130 [.long (a4).toInt64, .long (Int64.ofNat 1), .long (Int64.ofNat 8)] h1 (am_pI Q6 X6) ∧ (∀ x7 h5, Q6 x7 h5 →
      ((¬ x7 = (Int32.ofNat 0) →
       (am_K h5 a0 = 11 ∧ ∃ q8, am_R h5 10 17 a0 = some q8 ∧
       (am_K h5 a0 = 11 ∧ ∃ q9, am_R h5 10 11 a0 = some q9 ∧
       ((am_K h5 q9 = 21 ∨ am_K h5 q9 = 31) ∧ vp_in a1 (am_N h5 q9) ∧
       ((am_K h5 q8 = 23 ∨ am_K h5 q8 = 24) ∧ vp_in (am_A h5 q9 (a1).toNatClampNeg) (am_N h5 q8) ∧
       ((¬ (am_A h5 q8 ((am_A h5 q9 (a1).toNatClampNeg)).toNatClampNeg) = (Int32.ofNat 0) →
        Q (-3 : Int32) h5) ∧
       (¬ (¬ (am_A h5 q8 ((am_A h5 q9 (a1).toNatClampNeg)).toNatClampNeg) = (Int32.ofNat 0)) →
        (am_K h5 a0 = 11 ∧ ∃ q10, am_R h5 10 12 a0 = some q10 ∧
        ((am_K h5 q10 = 23 ∨ am_K h5 q10 = 24) ∧ vp_in a1 (am_N h5 q10) ∧
        (((am_A h5 q10 (a1).toNatClampNeg) = (Int32.ofNat 0) →
         (am_K h5 a0 = 11 ∧ ∃ q11, am_R h5 10 9 a0 = some q11 ∧
         ((am_K h5 q11 = 21 ∨ am_K h5 q11 = 31) ∧ vp_in a1 (am_N h5 q11) ∧
         ((((am_A h5 q11 (a1).toNatClampNeg) + a4) ≤ (Int32.ofNat 120) →
          am_Ev tt 138 88 [some (.ref a0), some (.int a1), some (.long a2), none, none, some (.int (a4 - (Int32.ofNat 1)))] [] h5 (am_pI Q Qx)) ∧
         (¬ (((am_A h5 q11 (a1).toNatClampNeg) + a4) ≤ (Int32.ofNat 120)) →
          Q (-4 : Int32) h5))))) ∧
        (¬ ((am_A h5 q10 (a1).toNatClampNeg) = (Int32.ofNat 0)) →
         Q (-3 : Int32) h5))))))))))) ∧
      (¬ (¬ x7 = (Int32.ofNat 0)) →
       Q (-2 : Int32) h5))) ∧ (∀ E12 h5, X6 E12 h5 → Qx E12 h5))))))))) ∧ (∀ E13 h1, X2 E13 h1 → Qx E13 h1)))) :
  am_Ev tt 138 0 [some (.ref a0), some (.int a1), some (.long a2), none, some (.int a4), none] [] h (am_pI Q Qx) := am_vc 47 [(88, [true, true, true, false, false, true])] q
theorem vc_138_88 (tt : Nat → Nat) (a0 : Nat) (a1 : Int32) (a2 : Int64) (a5 : Int32) (h : am_H) (Q : Int32 → am_H → Prop) (Qx : String → am_H → Prop) (q :
  ((a5 < (Int32.ofNat 0) →
   (am_K h a0 = 11 ∧ ∃ q1, am_R h 10 9 a0 = some q1 ∧
   ((am_K h q1 = 21 ∨ am_K h q1 = 31) ∧ vp_in a1 (am_N h q1) ∧
   Q (am_A h q1 (a1).toNatClampNeg) h))) ∧
  (¬ (a5 < (Int32.ofNat 0)) →
   (am_K h a0 = 11 ∧ ∃ q2, am_R h 10 10 a0 = some q2 ∧
   (am_K h a0 = 11 ∧ ∃ q3, am_R h 10 9 a0 = some q3 ∧
   ((am_K h q3 = 21 ∨ am_K h q3 = 31) ∧ vp_in a1 (am_N h q3) ∧
   (vp_in (((Int32.ofNat 2400) * a1) + (am_A h q3 (a1).toNatClampNeg)) (am_N h q2) ∧ ∃ w4, ((am_K h q2 = 23 ∧ w4 = ((((a2 >>> ((((Int32.ofNat 8) * a5)).toInt64 &&& 63))).toInt32).toInt8.toInt32).toInt8.toInt32) ∨ (am_K h q2 = 24 ∧ w4 = ((((a2 >>> ((((Int32.ofNat 8) * a5)).toInt64 &&& 63))).toInt32).toInt8.toInt32 &&& 1))) ∧
   (am_K h a0 = 11 ∧ ∃ q5, am_R h 10 9 a0 = some q5 ∧
   ((am_K h q5 = 21 ∨ am_K h q5 = 31) ∧ vp_in a1 (am_N h q5) ∧
   (am_K h q5 = 21 ∧ vp_in a1 (am_N h q5) ∧
   am_Ev tt 138 88 [some (.ref a0), some (.int a1), some (.long a2), none, none, some (.int (a5 + (-1 : Int32)))] [] (am_sA (am_sA h q2 ((((Int32.ofNat 2400) * a1) + (am_A h q3 (a1).toNatClampNeg))).toNatClampNeg w4) q5 (a1).toNatClampNeg ((am_A (am_sA h q2 ((((Int32.ofNat 2400) * a1) + (am_A h q3 (a1).toNatClampNeg))).toNatClampNeg w4) q5 (a1).toNatClampNeg) + (Int32.ofNat 1))) (am_pI Q Qx))))))))))) :
  am_Ev tt 138 88 [some (.ref a0), some (.int a1), some (.long a2), none, none, some (.int a5)] [] h (am_pI Q Qx) := am_vc 33 [(88, [true, true, true, false, false, true])] q

/-! 139 yX10_block -/
theorem vc_139_0 (tt : Nat → Nat) (a0 : Nat) (a1 : Int32) (a2 : Int32) (h : am_H) (Q : Int32 → am_H → Prop) (Qx : String → am_H → Prop) (q :
  (am_K h a0 = 11 ∧
  (am_K h a0 = 11 ∧ ∃ (Q2 : Int32 → am_H → Prop) (X2 : String → am_H → Prop), am_Ct tt 134 [.ref a0, .int a1] (am_sI h 10 0 a0 (Int32.ofNat 0)) (am_pI Q2 X2) ∧ (∀ x3 h1, Q2 x3 h1 →
   ((x3 = (Int32.ofNat 0) →
    Q (-2 : Int32) h1) ∧
   (¬ (x3 = (Int32.ofNat 0)) →
    (am_K h1 a0 = 11 ∧ ∃ q4, am_R h1 10 2 a0 = some q4 ∧
    ((am_K h1 q4 = 21 ∨ am_K h1 q4 = 31) ∧ vp_in a1 (am_N h1 q4) ∧
    (((am_A h1 q4 (a1).toNatClampNeg) = (Int32.ofNat 1) →
     Q (-2 : Int32) h1) ∧
    (¬ ((am_A h1 q4 (a1).toNatClampNeg) = (Int32.ofNat 1)) →
     (∃ (Q6 : Int32 → am_H → Prop) (X6 : String → am_H → Prop), am_Ct tt 130 [.long (a2).toInt64, .long (Int64.ofNat 0), .long (Int64.ofNat 5)] h1 (am_pI Q6 X6) ∧ (∀ x7 h5, Q6 x7 h5 →
      ((¬ x7 = (Int32.ofNat 0) →
       (am_K h5 a0 = 11 ∧ ∃ q8, am_R h5 10 17 a0 = some q8 ∧
       ((am_K h5 q8 = 23 ∨ am_K h5 q8 = 24) ∧ vp_in a2 (am_N h5 q8) ∧
       ((¬ (am_A h5 q8 (a2).toNatClampNeg) = (Int32.ofNat 0) →
        Q (-3 : Int32) h5) ∧
       (¬ (¬ (am_A h5 q8 (a2).toNatClampNeg) = (Int32.ofNat 0)) →
        (am_K h5 a0 = 11 ∧ ∃ q9, am_R h5 10 17 a0 = some q9 ∧
        (am_K h5 a0 = 11 ∧ ∃ q10, am_R h5 10 11 a0 = some q10 ∧
        ((am_K h5 q10 = 21 ∨ am_K h5 q10 = 31) ∧ vp_in a1 (am_N h5 q10) ∧
        ((am_K h5 q9 = 23 ∨ am_K h5 q9 = 24) ∧ vp_in (am_A h5 q10 (a1).toNatClampNeg) (am_N h5 q9) ∧
        (((am_A h5 q9 ((am_A h5 q10 (a1).toNatClampNeg)).toNatClampNeg) = (Int32.ofNat 0) →
         (am_K h5 a0 = 11 ∧ ∃ q11, am_R h5 10 11 a0 = some q11 ∧
         ((am_K h5 q11 = 21 ∨ am_K h5 q11 = 31) ∧ vp_in a1 (am_N h5 q11) ∧
         (am_K h5 a0 = 11 ∧ ∃ q12, am_R h5 10 11 a0 = some q12 ∧
         (am_K h5 q12 = 21 ∧ vp_in a1 (am_N h5 q12) ∧
         Q (am_A h5 q11 (a1).toNatClampNeg) (am_sA h5 q12 (a1).toNatClampNeg a2)))))) ∧
        (¬ ((am_A h5 q9 ((am_A h5 q10 (a1).toNatClampNeg)).toNatClampNeg) = (Int32.ofNat 0)) →
         Q (-3 : Int32) h5))))))))))) ∧
      (¬ (¬ x7 = (Int32.ofNat 0)) →
       Q (-2 : Int32) h5))) ∧ (∀ E13 h5, X6 E13 h5 → Qx E13 h5))))))))) ∧ (∀ E14 h1, X2 E14 h1 → Qx E14 h1)))) :
  am_Ev tt 139 0 [some (.ref a0), some (.int a1), some (.int a2), none] [] h (am_pI Q Qx) := am_vc 46 [] q

section MC
variable {tt : Nat → Nat} {P : Nat → Prop} {h h' h'' : am_H} {m : Nat} {ad : Nat → Nat} {S : sS}
theorem in_lu {x : Int32} {l u : Nat} (hl : l ≤ 60000) (hu : u ≤ 60000) : (Int64.ofNat l ≤ x.toInt64 ∧ x.toInt64 ≤ Int64.ofNat u) = (¬ x < Int32.ofNat l ∧ ¬ Int32.ofNat u < x) := by
  rw [Int64.le_iff_toInt_le, Int64.le_iff_toInt_le, Int32.toInt_toInt64, Int64.toInt_ofNat_of_lt (by omega), Int64.toInt_ofNat_of_lt (by omega), Int32.lt_iff_toInt_lt, Int32.lt_iff_toInt_lt, Int32.toInt_ofNat_of_lt (by omega), Int32.toInt_ofNat_of_lt (by omega)]
  exact propext (by omega)
theorem b01_nz {b : Bool} : (b01 (!b) = Int32.ofNat 0) = (b = true) := by cases b <;> simp [b01] <;> decide
theorem ct_mput (q : RM P h m ad S) (wf : wfS S) {x n : Int32} {w : Int64} : am_Ct tt 138 [.ref m, .int x, .long w, .int n] h (am_pI (fun r h' => r = (f_put S x w n).1 ∧ okM P h m ad (f_put S x w n).2 h') no_x) := by
  have q0 := q.th (Int32.ofNat 0)
  have s := q.1
  have n24 := wf.1.1
  refine vc_138_0 tt _ _ _ _ h _ _ ?_
  refine ⟨s.1, s.1, _, _, ct_isEntry (n := a_n S.1) s.1 q0.1.2.1 (by omega), fun r k e => ?_, fun _ _ z => z⟩
  obtain ⟨ek, e⟩ := e
  subst k e
  generalize am_sI h 10 0 m (Int32.ofNat 0) = h1 at q0 ⊢
  have q1 := q0.1
  have s1 := q1.1
  cases ex : ixo (a_n S.1) x with
  | none =>
    have fE : f_put S x w n = (-2, S) := by rw [f_put, ex]
    rw [fE]
    exact ⟨fun _ => ⟨rfl, q0⟩, fun w => absurd rfl w⟩
  | some i =>
    obtain ⟨hi, rfl⟩ := ixo_o ex
    obtain ⟨y1, y2, y3, y4, y5, y6, y7, y8, y9, y10, y11, y12⟩ := q1.2.2.1 i hi
    obtain ⟨g1, g2, g3, g4⟩ := wf.1.2.1 i hi
    have yb := (q1.2.2.2.1 _ g4).1
    have fE : f_put S (Int32.ofNat i) w n = if ¬ e_kd (a_E S.1 i) = 0 ∨ n < Int32.ofNat 1 ∨ Int32.ofNat 8 < n then (-2, S) else if a_kn S.1 i = false ∨ e_an (a_E S.1 i) = true then (-3, S)
    else if 120 < e_sz (a_E S.1 i) + n.toNatClampNeg then (-4, S) else (Int32.ofNat (e_sz (a_E S.1 i) + n.toNatClampNeg), put_E S i (e_setB (a_E S.1 i) w n.toNatClampNeg)) := by rw [f_put, ex]
    rw [fE]
    have i24 : i < 24 := by omega
    simp (disch := omega) only [s1.1, md_f s1, y1, i24, b01_z, am_hs, qi_lt, qi_le, qi_eq, qi_nn, qi_in, qi_add, qi_l, ql_i, ql_lt, ql_le, ql_eq, ql_add, qc_lt, qc_eq, qc_ge, qc_gt, qc_le, true_and, and_true, and_self, true_or, or_true, false_or, or_false, false_and, and_false, not_true_eq_false, not_false_eq_true, Classical.not_not, true_implies, false_implies, implies_true, exists_eq_left, exists_eq_left', Option.some.injEq, reduceIte, Nat.reduceEqDiff, Nat.reduceLT, Nat.reduceLeDiff, Nat.reduceAdd, Nat.reduceSub, Nat.reduceMul, eq_self, ne_eq, and_imp, forall_const, reduceCtorEq, am_w, List.map_cons, List.map_nil, List.sum_cons, List.sum_nil, Value.category, Nat.zero_le, Nat.le_refl]
    refine ⟨fun w => absurd w (by simp), fun _ => ⟨fun z => by rw [if_pos (Or.inl (by omega))]; exact ⟨rfl, q0⟩, fun z => ⟨_, _, ct_in, fun r k e => ?_, fun _ _ z => z⟩⟩⟩
    obtain ⟨ek, e⟩ := e
    subst k e
    simp (disch := omega) only [in_lu]
    by_cases c : ¬ n < Int32.ofNat 1 ∧ ¬ Int32.ofNat 8 < n
    · have hnn : ∃ m, 1 ≤ m ∧ m ≤ 8 ∧ n = Int32.ofNat m := by
        rcases qi_cases n with hn | ⟨m, hm, rfl⟩
        · exact absurd (Int32.lt_trans hn (by decide)) c.1
        · simp (disch := omega) only [qi_lt, qi_le, qi_eq, qi_nn, qi_in, qi_add, qi_l, ql_i, ql_lt, ql_le, ql_eq, ql_add, qc_lt, qc_eq, qc_ge, qc_gt, qc_le] at c
          exact ⟨m, by omega, by omega, rfl⟩
      rw [if_pos c, if_neg (fun w => by
        rcases w with w | w | w
        · exact w (by omega)
        · exact c.1 w
        · exact c.2 w)]
      obtain ⟨l, l1, l8, rfl⟩ := hnn
      rw [qi_nn (by omega)]
      have kE : (am_A h1 (ad 17) (e_hm (a_E S.1 i)) = Int32.ofNat 0) = (a_kn S.1 i = true) := by rw [yb, b01_nz]; rfl
      simp (disch := omega) only [s1.1, md_f s1, y5, y6, y4, kE, g4, i24, b01_z, am_hs, qi_lt, qi_le, qi_eq, qi_nn, qi_in, qi_add, qi_l, ql_i, ql_lt, ql_le, ql_eq, ql_add, qc_lt, qc_eq, qc_ge, qc_gt, qc_le, true_and, and_true, and_self, true_or, or_true, false_or, or_false, false_and, and_false, not_true_eq_false, not_false_eq_true, Classical.not_not, true_implies, false_implies, implies_true, exists_eq_left, exists_eq_left', Option.some.injEq, reduceIte, Nat.reduceEqDiff, Nat.reduceLT, Nat.reduceLeDiff, Nat.reduceAdd, Nat.reduceSub, Nat.reduceMul, eq_self, ne_eq, and_imp, forall_const, reduceCtorEq, am_w, List.map_cons, List.map_nil, List.sum_cons, List.sum_nil, Value.category, Nat.zero_le, Nat.le_refl]
      refine ⟨fun w1 => by rw [if_pos (Or.inl (by simpa using w1))]; exact ⟨rfl, q0⟩, fun w1 => ⟨fun w2 => ⟨fun w3 => ?_, fun w3 => ?_⟩, fun w2 => by rw [if_pos (Or.inr (by simpa using w2))]; exact ⟨rfl, q0⟩⟩⟩
      · rw [if_neg (fun z => by rcases z with z | z; rw [w1] at z; cases z; rw [w2] at z; cases z), if_neg (by omega)]
        have key : ∀ (d c : Nat) (k : am_H) (Q : Int32 → am_H → Prop), d + c = l → mfr h1 m ad k → am_I k = am_I h1 → am_B k = am_B h1 → (∀ t, ¬ t = 9 → ¬ t = 10 → am_A k (ad t) = am_A h1 (ad t)) → (∀ j, am_A k (ad 9) j = if j = i then Int32.ofNat (e_sz (a_E S.1 i) + c) else am_A h1 (ad 9) j) → (∀ p, am_A k (ad 10) p = if 2400 * i + e_sz (a_E S.1 i) ≤ p ∧ p < 2400 * i + e_sz (a_E S.1 i) + c then lb w (l - 1 - (p - (2400 * i + e_sz (a_E S.1 i)))) else am_A h1 (ad 10) p) →
            (∀ k', mfr h1 m ad k' → am_I k' = am_I h1 → am_B k' = am_B h1 → (∀ t, ¬ t = 9 → ¬ t = 10 → am_A k' (ad t) = am_A h1 (ad t)) → (∀ j, am_A k' (ad 9) j = if j = i then Int32.ofNat (e_sz (a_E S.1 i) + l) else am_A h1 (ad 9) j) → (∀ p, am_A k' (ad 10) p = if 2400 * i + e_sz (a_E S.1 i) ≤ p ∧ p < 2400 * i + e_sz (a_E S.1 i) + l then lb w (l - 1 - (p - (2400 * i + e_sz (a_E S.1 i)))) else am_A h1 (ad 10) p) → Q (Int32.ofNat (e_sz (a_E S.1 i) + l)) k') →
            am_Ev tt 138 88 [some (.ref m), some (.int (Int32.ofNat i)), some (.long w), none, none, some (.int (Int32.ofNat d + (-1 : Int32)))] [] k (am_pI Q no_x) := by
          intro d
          induction d with
          | zero =>
            intro c k Q ec p1 p2 p3 p4 p5 p6 hQ
            have sk := p1.md s1
            have : c = l := by omega
            subst this
            refine vc_138_88 tt _ _ _ _ _ _ _ ⟨fun _ => ?_, fun z => absurd (show Int32.ofNat 0 + (-1 : Int32) < Int32.ofNat 0 by decide) z⟩
            simp (disch := omega) only [sk.1, md_f sk, i24, p5, am_hs, qi_lt, qi_le, qi_eq, qi_nn, qi_in, qi_add, qi_l, ql_i, ql_lt, ql_le, ql_eq, ql_add, qc_lt, qc_eq, qc_ge, qc_gt, qc_le, true_and, and_true, and_self, true_or, or_true, false_or, or_false, false_and, and_false, not_true_eq_false, not_false_eq_true, Classical.not_not, true_implies, false_implies, implies_true, exists_eq_left, exists_eq_left', Option.some.injEq, reduceIte, Nat.reduceEqDiff, Nat.reduceLT, Nat.reduceLeDiff, Nat.reduceAdd, Nat.reduceSub, Nat.reduceMul, eq_self, ne_eq, and_imp, forall_const, reduceCtorEq, am_w, List.map_cons, List.map_nil, List.sum_cons, List.sum_nil, Value.category, Nat.zero_le, Nat.le_refl]
            exact hQ k p1 p2 p3 p4 p5 p6
          | succ d ih =>
            intro c k Q ec p1 p2 p3 p4 p5 p6 hQ
            have sk := p1.md s1
            rw [qi_dec (by omega), Nat.add_sub_cancel]
            refine vc_138_88 tt _ _ _ _ _ _ _ ?_
            have lt1 : 2400 * i + (e_sz (a_E S.1 i) + c) < 57600 := by omega
            simp (disch := omega) only [sk.1, md_f sk, md_i sk, i24, p5, qi_mul, lt1, am_hs, qi_lt, qi_le, qi_eq, qi_nn, qi_in, qi_add, qi_l, ql_i, ql_lt, ql_le, ql_eq, ql_add, qc_lt, qc_eq, qc_ge, qc_gt, qc_le, true_and, and_true, and_self, true_or, or_true, false_or, or_false, false_and, and_false, not_true_eq_false, not_false_eq_true, Classical.not_not, true_implies, false_implies, implies_true, exists_eq_left, exists_eq_left', Option.some.injEq, reduceIte, Nat.reduceEqDiff, Nat.reduceLT, Nat.reduceLeDiff, Nat.reduceAdd, Nat.reduceSub, Nat.reduceMul, eq_self, ne_eq, and_imp, forall_const, reduceCtorEq, am_w, List.map_cons, List.map_nil, List.sum_cons, List.sum_nil, Value.category, Nat.zero_le, Nat.le_refl]
            refine ⟨by omega, fun _ => ?_⟩
            rw [q8_8, lb_s (by omega), lb_88]
            refine ih (c + 1) _ Q (by omega) ((p1.tr mfr.sA).tr mfr.sA) p2 p3 (fun t t1 t2 => ?_) (fun j => ?_) (fun p => ?_) hQ
            · rw [← p4 t t1 t2]
              funext j
              simp only [am_hs, md_i sk]
              rw [if_neg (fun z => t1 z.1), if_neg (fun z => t2 z.1)]
            · simp only [am_hs, md_i sk, true_and, and_true, and_self, true_or, or_true, false_or, or_false, false_and, and_false, not_true_eq_false, not_false_eq_true, Classical.not_not, true_implies, false_implies, implies_true, exists_eq_left, exists_eq_left', Option.some.injEq, reduceIte, Nat.reduceEqDiff, Nat.reduceLT, Nat.reduceLeDiff, Nat.reduceAdd, Nat.reduceSub, Nat.reduceMul, eq_self, ne_eq, and_imp, forall_const, reduceCtorEq, am_w, List.map_cons, List.map_nil, List.sum_cons, List.sum_nil, Value.category, Nat.zero_le, Nat.le_refl]
              rw [p5 j]
              by_cases e : j = i
              · rw [if_pos e, if_pos e, Nat.add_assoc]
              · rw [if_neg e, if_neg e, if_neg e]
            · simp only [am_hs, md_i sk, true_and, and_true, and_self, true_or, or_true, false_or, or_false, false_and, and_false, not_true_eq_false, not_false_eq_true, Classical.not_not, true_implies, false_implies, implies_true, exists_eq_left, exists_eq_left', Option.some.injEq, reduceIte, Nat.reduceEqDiff, Nat.reduceLT, Nat.reduceLeDiff, Nat.reduceAdd, Nat.reduceSub, Nat.reduceMul, eq_self, ne_eq, and_imp, forall_const, reduceCtorEq, am_w, List.map_cons, List.map_nil, List.sum_cons, List.sum_nil, Value.category, Nat.zero_le, Nat.le_refl]
              rw [p6 p]
              by_cases e : p = 2400 * i + (e_sz (a_E S.1 i) + c)
              · rw [if_pos e, if_pos (by omega)]
                congr 1
                omega
              · rw [if_neg e]
                by_cases e2 : 2400 * i + e_sz (a_E S.1 i) ≤ p ∧ p < 2400 * i + e_sz (a_E S.1 i) + c
                · rw [if_pos e2, if_pos (by omega)]
                · rw [if_neg e2, if_neg (by omega)]
        rw [Int32.sub_eq_add_neg]
        refine key l 0 h1 _ (by omega) mfr.rf rfl rfl (fun _ _ _ => rfl) (fun j => ?_) (fun p => by rw [if_neg (by omega)]) (fun k' p1 p2 p3 p4 p5 p6 => ⟨rfl, q0.tr ?_⟩)
        · by_cases e : j = i
          · rw [if_pos e, e, y4, Nat.add_zero]
          · rw [if_neg e]
        · refine q1.upE wf (i := i) p1 (fun f _ => by rw [p2]) (fun k j z => ?_) (fun j _ => by rw [p3]) ?_
          · unfold tch at z
            by_cases k9 : k = 9
            · subst k9
              rw [p5, if_neg (by omega)]
            · by_cases k10 : k = 10
              · subst k10
                rw [p6, if_neg (by omega)]
              · rw [p4 k k9 k10]
          · refine ⟨by rw [p4 2 (by omega) (by omega)]; exact y1, by rw [p4 3 (by omega) (by omega)]; exact y2, by rw [p4 4 (by omega) (by omega)]; exact y3, by rw [p5, if_pos rfl]; rfl, by rw [p4 11 (by omega) (by omega)]; exact y5, by rw [p4 12 (by omega) (by omega)]; exact y6, by rw [p4 5 (by omega) (by omega)]; exact y7, by rw [p3]; exact y8, by rw [p4 7 (by omega) (by omega)]; exact y9, by rw [p4 8 (by omega) (by omega)]; exact y10, by rw [p4 13 (by omega) (by omega)]; exact y11, fun _ j hj => ?_⟩
            have hj' : j < e_sz (a_E S.1 i) + l := hj
            rw [p6]
            show _ = apw (e_by (a_E S.1 i)) (e_sz (a_E S.1 i)) w l j
            unfold apw
            by_cases e : e_sz (a_E S.1 i) ≤ j
            · rw [if_pos (by omega), if_pos (by omega)]
              congr 1
              omega
            · rw [if_neg (by omega), if_neg (by omega)]
              exact y12 w1 j (by omega)
      · rw [if_neg (fun z => by rcases z with z | z; rw [w1] at z; cases z; rw [w2] at z; cases z), if_pos (by omega)]
        exact ⟨rfl, q0⟩
    · rw [if_neg c, if_pos (Or.inr (by
        rcases Classical.not_and_iff_not_or_not.1 c with c | c
        · exact Or.inl (Classical.not_not.1 c)
        · exact Or.inr (Classical.not_not.1 c)))]
      exact ⟨fun w => absurd rfl w, fun _ => ⟨rfl, q0⟩⟩
theorem ct_mblock (q : RM P h m ad S) (wf : wfS S) {x y : Int32} : am_Ct tt 139 [.ref m, .int x, .int y] h (am_pI (fun r h' => r = (f_block S x y).1 ∧ okM P h m ad (f_block S x y).2 h') no_x) := by
  have q0 := q.th (Int32.ofNat 0)
  have s := q.1
  have n24 := wf.1.1
  refine vc_139_0 tt _ _ _ h _ _ ?_
  refine ⟨s.1, s.1, _, _, ct_isEntry (n := a_n S.1) s.1 q0.1.2.1 (by omega), fun r k e => ?_, fun _ _ z => z⟩
  obtain ⟨ek, e⟩ := e
  subst k e
  generalize am_sI h 10 0 m (Int32.ofNat 0) = h1 at q0 ⊢
  have q1 := q0.1
  have s1 := q1.1
  cases ex : ixo (a_n S.1) x with
  | none =>
    have fE : f_block S x y = (-2, S) := by rw [f_block, ex]
    rw [fE]
    exact ⟨fun _ => ⟨rfl, q0⟩, fun w => absurd rfl w⟩
  | some i =>
    obtain ⟨hi, rfl⟩ := ixo_o ex
    obtain ⟨y1, y2, y3, y4, y5, y6, y7, y8, y9, y10, y11, y12⟩ := q1.2.2.1 i hi
    obtain ⟨g1, g2, g3, g4⟩ := wf.1.2.1 i hi
    have yb := (q1.2.2.2.1 _ g4).1
    have i24 : i < 24 := by omega
    simp (disch := omega) only [s1.1, md_f s1, y1, i24, b01_z, am_hs, qi_lt, qi_le, qi_eq, qi_nn, qi_in, qi_add, qi_l, ql_i, ql_lt, ql_le, ql_eq, ql_add, qc_lt, qc_eq, qc_ge, qc_gt, qc_le, true_and, and_true, and_self, true_or, or_true, false_or, or_false, false_and, and_false, not_true_eq_false, not_false_eq_true, Classical.not_not, true_implies, false_implies, implies_true, exists_eq_left, exists_eq_left', Option.some.injEq, reduceIte, Nat.reduceEqDiff, Nat.reduceLT, Nat.reduceLeDiff, Nat.reduceAdd, Nat.reduceSub, Nat.reduceMul, eq_self, ne_eq, and_imp, forall_const, reduceCtorEq, am_w, List.map_cons, List.map_nil, List.sum_cons, List.sum_nil, Value.category, Nat.zero_le, Nat.le_refl]
    refine ⟨fun w => absurd w (by simp), fun _ => ⟨fun z => ?_, fun z => ⟨_, _, ct_inN (n := 6) (by omega) (Or.inr ⟨by omega, rfl⟩), fun r k e => ?_, fun _ _ z => z⟩⟩⟩
    · have fE : f_block S (Int32.ofNat i) y = (-2, S) := by
        rw [f_block, ex]
        cases ixo 6 y with
        | none => rfl
        | some b => simp only []; rw [if_pos (by omega)]
      rw [fE]; exact ⟨rfl, q0⟩
    · obtain ⟨ek, e⟩ := e
      subst k e
      cases ey : ixo 6 y with
      | none =>
        have fE : f_block S (Int32.ofNat i) y = (-2, S) := by rw [f_block, ex, ey]
        rw [fE]
        exact ⟨fun w => absurd rfl w, fun _ => ⟨rfl, q0⟩⟩
      | some b =>
        obtain ⟨hb, rfl⟩ := ixo_o ey
        have yb' := (q1.2.2.2.1 _ hb).1
        have fE : f_block S (Int32.ofNat i) (Int32.ofNat b) = if b_kn (a_B S.1 (e_hm (a_E S.1 i))) = false ∨ b_kn (a_B S.1 b) = false then (-3, S) else (Int32.ofNat (e_hm (a_E S.1 i)), put_E S i (e_setH (a_E S.1 i) b)) := by
          rw [f_block, ex, ey]
          simp only []
          rw [if_neg (by omega)]
          rfl
        rw [fE]
        simp (disch := omega) only [s1.1, md_f s1, md_i s1, y5, yb, yb', b01_nz, b01_z, hb, g4, i24, am_hs, qi_lt, qi_le, qi_eq, qi_nn, qi_in, qi_add, qi_l, ql_i, ql_lt, ql_le, ql_eq, ql_add, qc_lt, qc_eq, qc_ge, qc_gt, qc_le, true_and, and_true, and_self, true_or, or_true, false_or, or_false, false_and, and_false, not_true_eq_false, not_false_eq_true, Classical.not_not, true_implies, false_implies, implies_true, exists_eq_left, exists_eq_left', Option.some.injEq, reduceIte, Nat.reduceEqDiff, Nat.reduceLT, Nat.reduceLeDiff, Nat.reduceAdd, Nat.reduceSub, Nat.reduceMul, eq_self, ne_eq, and_imp, forall_const, reduceCtorEq, am_w, List.map_cons, List.map_nil, List.sum_cons, List.sum_nil, Value.category, Nat.zero_le, Nat.le_refl]
        refine ⟨fun _ => ⟨fun w => ?_, fun w => ⟨fun w2 => ?_, fun w2 => ?_⟩⟩, fun w => absurd w (by simp)⟩
        · rw [if_pos (Or.inr (by simpa using w))]; exact ⟨rfl, q0⟩
        · have w' : b_kn (a_B S.1 b) = true := by simpa using w
          have w2' : b_kn (a_B S.1 (e_hm (a_E S.1 i))) = true := by simpa using w2
          rw [if_neg (fun z => by rcases z with z | z; rw [w2'] at z; cases z; rw [w'] at z; cases z)]
          refine ⟨rfl, q0.tr ?_⟩
          refine q1.upE wf (i := i) mfr.sA (fun f _ => rfl) (fun k j z => ?_) (fun j _ => rfl) ?_
          · simp only [am_hs, md_i s1]
            unfold tch at z
            rw [if_neg (by omega)]
          · have y12' := y12 w2'
            refine ⟨?_, ?_, ?_, ?_, ?_, ?_, ?_, ?_, ?_, ?_, ?_, ?_⟩ <;> (try simp only [am_hs, md_i s1, true_and, and_true, and_self, true_or, or_true, false_or, or_false, false_and, and_false, not_true_eq_false, not_false_eq_true, Classical.not_not, true_implies, false_implies, implies_true, exists_eq_left, exists_eq_left', Option.some.injEq, reduceIte, Nat.reduceEqDiff, Nat.reduceLT, Nat.reduceLeDiff, Nat.reduceAdd, Nat.reduceSub, Nat.reduceMul, eq_self, ne_eq, and_imp, forall_const, reduceCtorEq, am_w, List.map_cons, List.map_nil, List.sum_cons, List.sum_nil, Value.category, Nat.zero_le, Nat.le_refl]) <;> first | exact (fun _ => y12') | first | exact y1 | exact y2 | exact y3 | exact y4 | exact y5 | exact y6 | exact y7 | exact y8 | exact y9 | exact y10 | exact y11 | exact y12 | rfl
        · rw [if_pos (Or.inl (by simpa using w2))]; exact ⟨rfl, q0⟩
end MC
