/-! deps: 13a -/
/-! ===== the class's entries ===== -/
/-! 43 yX4_begin -/
theorem vc_43_0 (tt : Nat → Nat) (a0 : Nat) (a1 : Int32) (h : am_H) (Q : am_H → Prop) (Qx : String → am_H → Prop) (q :
  (am_K h a0 = 5 ∧
  (am_K h a0 = 5 ∧
  (am_K h a0 = 5 ∧
  (am_K h a0 = 5 ∧
  (am_K h a0 = 5 ∧ ((Int32.ofNat 0) = (Int32.ofNat 0) ∨ (Int32.ofNat 0) = (Int32.ofNat 1)) ∧
  (am_K h a0 = 5 ∧ ((Int32.ofNat 0) = (Int32.ofNat 0) ∨ (Int32.ofNat 0) = (Int32.ofNat 1)) ∧
  (am_K h a0 = 5 ∧ ((Int32.ofNat 0) = (Int32.ofNat 0) ∨ (Int32.ofNat 0) = (Int32.ofNat 1)) ∧
  (am_K h a0 = 5 ∧
  (am_K h a0 = 5 ∧ ((Int32.ofNat 0) = (Int32.ofNat 0) ∨ (Int32.ofNat 0) = (Int32.ofNat 1)) ∧
  Q (am_sI (am_sI (am_sI (am_sI (am_sI (am_sI (am_sI (am_sI (am_sI h 4 4 a0 a1) 4 1 a0 (Int32.ofNat 0)) 4 3 a0 (Int32.ofNat 0)) 4 5 a0 (Int32.ofNat 0)) 4 6 a0 (Int32.ofNat 0)) 4 7 a0 (Int32.ofNat 0)) 4 9 a0 (Int32.ofNat 0)) 4 11 a0 (Int32.ofNat 0)) 4 12 a0 (Int32.ofNat 0)))))))))))) :
  am_Ev tt 43 0 [some (.ref a0), some (.int a1)] [] h (am_pV Q Qx) := am_vc 30 [] q

/-! 44 yX4_addUnit -/
theorem vc_44_0 (tt : Nat → Nat) (a0 : Nat) (a1 : Int32) (h : am_H) (Q : am_H → Prop) (Qx : String → am_H → Prop) (q :
  (am_K h a0 = 5 ∧
  (am_K h a0 = 5 ∧ ∃ q1, am_R h 4 0 a0 = some q1 ∧
  ((20 < am_K h q1 ∧ (am_K h q1 ≤ 27 ∨ am_K h q1 = 31)) ∧
  (((Int32.ofNat (am_N h q1)) ≤ (am_I h 4 1 a0) →
   Q h) ∧
  (¬ ((Int32.ofNat (am_N h q1)) ≤ (am_I h 4 1 a0)) →
   (am_K h a0 = 5 ∧ ∃ q2, am_R h 4 0 a0 = some q2 ∧
   (am_K h a0 = 5 ∧
   (am_K h q2 = 25 ∧ vp_in (am_I h 4 1 a0) (am_N h q2) ∧
   (am_K h a0 = 5 ∧
   (am_K h a0 = 5 ∧
   Q (am_sI (am_sA h q2 ((am_I h 4 1 a0)).toNatClampNeg (a1).toUInt32.toUInt16.toUInt32.toInt32) 4 1 a0 ((am_I h 4 1 a0) + (Int32.ofNat 1)))))))))))))) :
  am_Ev tt 44 0 [some (.ref a0), some (.int a1)] [] h (am_pV Q Qx) := am_vc 21 [] q

/-! 45 yX4_giveTime -/
theorem vc_45_0 (tt : Nat → Nat) (a0 : Nat) (a1 : Int64) (h : am_H) (Q : am_H → Prop) (Qx : String → am_H → Prop) (q :
  (am_K h a0 = 5 ∧ ((Int32.ofNat 1) = (Int32.ofNat 0) ∨ (Int32.ofNat 1) = (Int32.ofNat 1)) ∧
  (am_K h a0 = 5 ∧
  Q (am_sJ (am_sI h 4 7 a0 (Int32.ofNat 1)) 4 8 a0 a1)))) :
  am_Ev tt 45 0 [some (.ref a0), some (.long a1), none] [] h (am_pV Q Qx) := am_vc 9 [] q

/-! 46 yX4_giveAttributes -/
theorem vc_46_0 (tt : Nat → Nat) (a0 : Nat) (a1 : Int32) (h : am_H) (Q : am_H → Prop) (Qx : String → am_H → Prop) (q :
  (am_K h a0 = 5 ∧ ((Int32.ofNat 1) = (Int32.ofNat 0) ∨ (Int32.ofNat 1) = (Int32.ofNat 1)) ∧
  (am_K h a0 = 5 ∧
  Q (am_sI (am_sI h 4 9 a0 (Int32.ofNat 1)) 4 10 a0 a1)))) :
  am_Ev tt 46 0 [some (.ref a0), some (.int a1)] [] h (am_pV Q Qx) := am_vc 9 [] q

/-! 47 yX4_addBytes -/
theorem vc_47_0 (tt : Nat → Nat) (a0 : Nat) (a1 : Int64) (a3 : Int32) (h : am_H) (Q : am_H → Prop) (Qx : String → am_H → Prop) (q :
  (am_K h a0 = 5 ∧
  (am_K h a0 = 5 ∧ ∃ (Q2 : am_H → Prop) (X2 : String → am_H → Prop), am_Ct tt 49 [.ref a0, .int ((am_I h 4 3 a0) + a3)] h (am_pV Q2 X2) ∧ (∀ h1, Q2 h1 →
   am_Ev tt 47 15 [some (.ref a0), some (.long a1), none, none, some (.int (a3 - (Int32.ofNat 1)))] [] h1 (am_pV Q Qx)) ∧ (∀ E3 h1, X2 E3 h1 → Qx E3 h1)))) :
  am_Ev tt 47 0 [some (.ref a0), some (.long a1), none, some (.int a3), none] [] h (am_pV Q Qx) := am_vc 13 [(15, [true, true, false, false, true])] q
theorem vc_47_15 (tt : Nat → Nat) (a0 : Nat) (a1 : Int64) (a4 : Int32) (h : am_H) (Q : am_H → Prop) (Qx : String → am_H → Prop) (q :
  ((a4 < (Int32.ofNat 0) →
   Q h) ∧
  (¬ (a4 < (Int32.ofNat 0)) →
   (am_K h a0 = 5 ∧
   (am_K h a0 = 5 ∧ ∃ q1, am_R h 4 2 a0 = some q1 ∧
   ((20 < am_K h q1 ∧ (am_K h q1 ≤ 27 ∨ am_K h q1 = 31)) ∧
   (((Int32.ofNat (am_N h q1)) ≤ (am_I h 4 3 a0) →
    Q h) ∧
   (¬ ((Int32.ofNat (am_N h q1)) ≤ (am_I h 4 3 a0)) →
    (am_K h a0 = 5 ∧ ∃ q2, am_R h 4 2 a0 = some q2 ∧
    (am_K h a0 = 5 ∧
    (vp_in (am_I h 4 3 a0) (am_N h q2) ∧ ∃ w3, ((am_K h q2 = 23 ∧ w3 = (((((a1).toUInt64 >>> ((((Int32.ofNat 8) * a4)).toInt64.toUInt64 &&& Int64.toUInt64 63)).toInt64).toInt32).toInt8.toInt32).toInt8.toInt32) ∨ (am_K h q2 = 24 ∧ w3 = (((((a1).toUInt64 >>> ((((Int32.ofNat 8) * a4)).toInt64.toUInt64 &&& Int64.toUInt64 63)).toInt64).toInt32).toInt8.toInt32 &&& 1))) ∧
    (am_K h a0 = 5 ∧
    (am_K h a0 = 5 ∧
    am_Ev tt 47 15 [some (.ref a0), some (.long a1), none, none, some (.int (a4 + (-1 : Int32)))] [] (am_sI (am_sA h q2 ((am_I h 4 3 a0)).toNatClampNeg w3) 4 3 a0 ((am_I h 4 3 a0) + (Int32.ofNat 1))) (am_pV Q Qx)))))))))))))) :
  am_Ev tt 47 15 [some (.ref a0), some (.long a1), none, none, some (.int a4)] [] h (am_pV Q Qx) := am_vc 31 [(15, [true, true, false, false, true])] q

/-! 48 yX4_takeBytes -/
theorem vc_48_0 (tt : Nat → Nat) (a0 : Nat) (a1 : Nat) (a2 : Int32) (h : am_H) (Q : am_H → Prop) (Qx : String → am_H → Prop) (q :
  (am_K h a0 = 5 ∧
  (am_K h a0 = 5 ∧ ∃ (Q2 : am_H → Prop) (X2 : String → am_H → Prop), am_Ct tt 49 [.ref a0, .int (am_I h 4 3 a0)] h (am_pV Q2 X2) ∧ (∀ h1, Q2 h1 →
   am_Ev tt 48 10 [some (.ref a0), some (.ref a1), some (.int a2), some (.int (Int32.ofNat 0))] [] h1 (am_pV Q Qx)) ∧ (∀ E3 h1, X2 E3 h1 → Qx E3 h1)))) :
  am_Ev tt 48 0 [some (.ref a0), some (.ref a1), some (.int a2), none] [] h (am_pV Q Qx) := am_vc 9 [(10, [true, true, true, true]), (52, [true, false, false, false])] q
theorem vc_48_10 (tt : Nat → Nat) (a0 : Nat) (a1 : Nat) (a2 : Int32) (a3 : Int32) (h : am_H) (Q : am_H → Prop) (Qx : String → am_H → Prop) (q :
  (am_K h a0 = 5 ∧
  (((am_I h 4 3 a0) ≤ a3 →
   am_Ev tt 48 52 [some (.ref a0), none, none, none] [] h (am_pV Q Qx)) ∧
  (¬ ((am_I h 4 3 a0) ≤ a3) →
   (am_K h a0 = 5 ∧ ∃ q1, am_R h 4 2 a0 = some q1 ∧
   ((20 < am_K h q1 ∧ (am_K h q1 ≤ 27 ∨ am_K h q1 = 31)) ∧
   (((Int32.ofNat (am_N h q1)) ≤ a3 →
    am_Ev tt 48 52 [some (.ref a0), none, none, none] [] h (am_pV Q Qx)) ∧
   (¬ ((Int32.ofNat (am_N h q1)) ≤ a3) →
    ((20 < am_K h a1 ∧ (am_K h a1 ≤ 27 ∨ am_K h a1 = 31)) ∧
    (((Int32.ofNat (am_N h a1)) ≤ (a2 + a3) →
     am_Ev tt 48 52 [some (.ref a0), none, none, none] [] h (am_pV Q Qx)) ∧
    (¬ ((Int32.ofNat (am_N h a1)) ≤ (a2 + a3)) →
     (am_K h a0 = 5 ∧ ∃ q2, am_R h 4 2 a0 = some q2 ∧
     ((am_K h a1 = 23 ∨ am_K h a1 = 24) ∧ vp_in (a2 + a3) (am_N h a1) ∧
     (vp_in a3 (am_N h q2) ∧ ∃ w3, ((am_K h q2 = 23 ∧ w3 = ((am_A h a1 ((a2 + a3)).toNatClampNeg)).toInt8.toInt32) ∨ (am_K h q2 = 24 ∧ w3 = ((am_A h a1 ((a2 + a3)).toNatClampNeg) &&& 1))) ∧
     am_Ev tt 48 10 [some (.ref a0), some (.ref a1), some (.int a2), some (.int (a3 + (Int32.ofNat 1)))] [] (am_sA h q2 (a3).toNatClampNeg w3) (am_pV Q Qx))))))))))))))) :
  am_Ev tt 48 10 [some (.ref a0), some (.ref a1), some (.int a2), some (.int a3)] [] h (am_pV Q Qx) := am_vc 29 [(10, [true, true, true, true]), (52, [true, false, false, false])] q
theorem vc_48_52 (tt : Nat → Nat) (a0 : Nat) (h : am_H) (Q : am_H → Prop) (Qx : String → am_H → Prop) (q :
  (am_K h a0 = 5 ∧ ∃ q1, am_R h 4 2 a0 = some q1 ∧
  (am_K h a0 = 5 ∧
  (∃ (Q3 : Int32 → am_H → Prop), am_Ct tt 126 [.ref q1, .int (Int32.ofNat 0), .int (am_I h 4 3 a0)] h (am_pI Q3 (fun _ _ => False)) ∧ (∀ x4 h2, Q3 x4 h2 →
   (am_K h2 a0 = 5 ∧
   ((x4 = (am_I h2 4 11 a0) →
    (am_K h2 a0 = 5 ∧ ((Int32.ofNat 0) = (Int32.ofNat 0) ∨ (Int32.ofNat 0) = (Int32.ofNat 1)) ∧
    Q (am_sI h2 4 12 a0 (Int32.ofNat 0)))) ∧
   (¬ (x4 = (am_I h2 4 11 a0)) →
    (am_K h2 a0 = 5 ∧ ((Int32.ofNat 1) = (Int32.ofNat 0) ∨ (Int32.ofNat 1) = (Int32.ofNat 1)) ∧
    Q (am_sI h2 4 12 a0 (Int32.ofNat 1))))))))))) :
  am_Ev tt 48 52 [some (.ref a0), none, none, none] [] h (am_pV Q Qx) := am_vc 16 [(10, [true, true, true, true]), (52, [true, false, false, false])] q

/-! 49 yX4_makeRoom -/
theorem vc_49_0 (tt : Nat → Nat) (a0 : Nat) (a1 : Int32) (h : am_H) (Q : am_H → Prop) (Qx : String → am_H → Prop) (q :
  (am_K h a0 = 5 ∧ ∃ q1, am_R h 4 2 a0 = some q1 ∧
  ((20 < am_K h q1 ∧ (am_K h q1 ≤ 27 ∨ am_K h q1 = 31)) ∧
  (((Int32.ofNat (am_N h q1)) < a1 →
   am_Ev tt 49 15 [some (.ref a0), some (.int a1), some (.int (Int32.ofNat 120)), some (.int (Int32.ofNat 0))] [] h (am_pV Q Qx)) ∧
  (¬ ((Int32.ofNat (am_N h q1)) < a1) →
   Q h))))) :
  am_Ev tt 49 0 [some (.ref a0), some (.int a1), none, none] [] h (am_pV Q Qx) := am_vc 12 [(15, [true, true, true, true])] q
theorem vc_49_15 (tt : Nat → Nat) (a0 : Nat) (a1 : Int32) (a2 : Int32) (a3 : Int32) (h : am_H) (Q : am_H → Prop) (Qx : String → am_H → Prop) (q :
  (((Int32.ofNat 8) ≤ a3 →
   (¬ a2 < (Int32.ofNat 0) ∧ (a2).toNatClampNeg ≤ 60000 ∧ am_U h + 1 ≤ am_LC ∧ am_V h + (a2).toNatClampNeg ≤ am_LS ∧ ∀ q1, am_K h q1 = 0 →
   (am_K (am_nA h q1 23 (a2).toNatClampNeg) a0 = 5 ∧
   Q (am_sR (am_nA h q1 23 (a2).toNatClampNeg) 4 2 a0 (some q1))))) ∧
  (¬ ((Int32.ofNat 8) ≤ a3) →
   ((a1 ≤ a2 →
    (¬ a2 < (Int32.ofNat 0) ∧ (a2).toNatClampNeg ≤ 60000 ∧ am_U h + 1 ≤ am_LC ∧ am_V h + (a2).toNatClampNeg ≤ am_LS ∧ ∀ q2, am_K h q2 = 0 →
    (am_K (am_nA h q2 23 (a2).toNatClampNeg) a0 = 5 ∧
    Q (am_sR (am_nA h q2 23 (a2).toNatClampNeg) 4 2 a0 (some q2))))) ∧
   (¬ (a1 ≤ a2) →
    am_Ev tt 49 15 [some (.ref a0), some (.int a1), some (.int (a2 * (Int32.ofNat 2))), some (.int (a3 + (Int32.ofNat 1)))] [] h (am_pV Q Qx)))))) :
  am_Ev tt 49 15 [some (.ref a0), some (.int a1), some (.int a2), some (.int a3)] [] h (am_pV Q Qx) := am_vc 15 [(15, [true, true, true, true])] q

def ch (x : Int32) : Int32 := x.toUInt32.toUInt16.toUInt32.toInt32
theorem ch_m (x : Int32) : (x.toUInt32 % 65536).toInt32 = ch x := by
  unfold ch
  simp
theorem ch_ch (x : Int32) : ch (ch x) = ch x := by
  unfold ch
  simp
  congr 1
  apply UInt32.toNat_inj.1
  simp
/-- the row of a new entry's object, begun anew -/
def en_b (h : am_H) (e : Nat) (k : Int32) : am_H := am_sI (am_sI (am_sI (am_sI (am_sI (am_sI (am_sI (am_sI (am_sI h 4 4 e k) 4 1 e (Int32.ofNat 0)) 4 3 e (Int32.ofNat 0)) 4 5 e (Int32.ofNat 0)) 4 6 e (Int32.ofNat 0)) 4 7 e (Int32.ofNat 0)) 4 9 e (Int32.ofNat 0)) 4 11 e (Int32.ofNat 0)) 4 12 e (Int32.ofNat 0)
theorem ct_ebegin {tt : Nat → Nat} {h : am_H} {e : Nat} {k : Int32} (s : am_K h e = 5) : am_Ct tt 43 [.ref e, .int k] h (am_pV (fun h' => h' = en_b h e k) no_x) := by
  refine vc_43_0 tt e k h _ _ ?_
  simp (disch := omega) only [s, en_b, am_hs, qi_lt, qi_le, qi_eq, qi_nn, qi_in, qi_add, qi_l, ql_i, ql_lt, ql_le, ql_eq, ql_add, qc_lt, qc_eq, qc_ge, qc_gt, qc_le, true_and, and_true, and_self, true_or, or_true, false_or, or_false, false_and, and_false, not_true_eq_false, not_false_eq_true, Classical.not_not, true_implies, false_implies, implies_true, exists_eq_left, exists_eq_left', Option.some.injEq, reduceIte, Nat.reduceEqDiff, Nat.reduceLT, Nat.reduceLeDiff, Nat.reduceAdd, Nat.reduceSub, Nat.reduceMul, eq_self, ne_eq, and_imp, forall_const, reduceCtorEq, am_w, List.map_cons, List.map_nil, List.sum_cons, List.sum_nil, Value.category, Nat.zero_le, Nat.le_refl]
theorem ct_addUnit {tt : Nat → Nat} {h : am_H} {e u n : Nat} {c : Int32} (s : am_K h e = 5) (s2 : am_R h 4 0 e = some u) (s3 : am_K h u = 25) (s4 : am_N h u = 20) (s5 : am_I h 4 1 e = Int32.ofNat n) (hn : n ≤ 20) : am_Ct tt 44 [.ref e, .int c] h (am_pV (fun h' => h' = if n < 20 then am_sI (am_sA h u n (ch c)) 4 1 e (Int32.ofNat (n + 1)) else h) no_x) := by
  refine vc_44_0 tt e c h _ _ ?_
  simp (disch := omega) only [s, s2, s3, s4, s5, am_hs, qi_lt, qi_le, qi_eq, qi_nn, qi_in, qi_add, qi_l, ql_i, ql_lt, ql_le, ql_eq, ql_add, qc_lt, qc_eq, qc_ge, qc_gt, qc_le, true_and, and_true, and_self, true_or, or_true, false_or, or_false, false_and, and_false, not_true_eq_false, not_false_eq_true, Classical.not_not, true_implies, false_implies, implies_true, exists_eq_left, exists_eq_left', Option.some.injEq, reduceIte, Nat.reduceEqDiff, Nat.reduceLT, Nat.reduceLeDiff, Nat.reduceAdd, Nat.reduceSub, Nat.reduceMul, eq_self, ne_eq, and_imp, forall_const, reduceCtorEq, am_w, List.map_cons, List.map_nil, List.sum_cons, List.sum_nil, Value.category, Nat.zero_le, Nat.le_refl]
  unfold ch
  grind
theorem ct_giveTime {tt : Nat → Nat} {h : am_H} {e : Nat} {v : Int64} (s : am_K h e = 5) : am_Ct tt 45 [.ref e, .long v] h (am_pV (fun h' => h' = am_sJ (am_sI h 4 7 e (Int32.ofNat 1)) 4 8 e v) no_x) := by
  refine vc_45_0 tt e v h _ _ ?_
  simp (disch := omega) only [s, am_hs, qi_lt, qi_le, qi_eq, qi_nn, qi_in, qi_add, qi_l, ql_i, ql_lt, ql_le, ql_eq, ql_add, qc_lt, qc_eq, qc_ge, qc_gt, qc_le, true_and, and_true, and_self, true_or, or_true, false_or, or_false, false_and, and_false, not_true_eq_false, not_false_eq_true, Classical.not_not, true_implies, false_implies, implies_true, exists_eq_left, exists_eq_left', Option.some.injEq, reduceIte, Nat.reduceEqDiff, Nat.reduceLT, Nat.reduceLeDiff, Nat.reduceAdd, Nat.reduceSub, Nat.reduceMul, eq_self, ne_eq, and_imp, forall_const, reduceCtorEq, am_w, List.map_cons, List.map_nil, List.sum_cons, List.sum_nil, Value.category, Nat.zero_le, Nat.le_refl]
theorem ct_giveAttr {tt : Nat → Nat} {h : am_H} {e : Nat} {v : Int32} (s : am_K h e = 5) : am_Ct tt 46 [.ref e, .int v] h (am_pV (fun h' => h' = am_sI (am_sI h 4 9 e (Int32.ofNat 1)) 4 10 e v) no_x) := by
  refine vc_46_0 tt e v h _ _ ?_
  simp (disch := omega) only [s, am_hs, qi_lt, qi_le, qi_eq, qi_nn, qi_in, qi_add, qi_l, ql_i, ql_lt, ql_le, ql_eq, ql_add, qc_lt, qc_eq, qc_ge, qc_gt, qc_le, true_and, and_true, and_self, true_or, or_true, false_or, or_false, false_and, and_false, not_true_eq_false, not_false_eq_true, Classical.not_not, true_implies, false_implies, implies_true, exists_eq_left, exists_eq_left', Option.some.injEq, reduceIte, Nat.reduceEqDiff, Nat.reduceLT, Nat.reduceLeDiff, Nat.reduceAdd, Nat.reduceSub, Nat.reduceMul, eq_self, ne_eq, and_imp, forall_const, reduceCtorEq, am_w, List.map_cons, List.map_nil, List.sum_cons, List.sum_nil, Value.category, Nat.zero_le, Nat.le_refl]
/-- room for so many bytes -/
def rmf (n : Nat) : Nat → Nat → Nat
  | 0, r => r
  | d + 1, r => if n ≤ r then r else rmf n d (r * 2)
def rmo (n : Nat) : Nat := rmf n 8 120
theorem rmo_ge {n : Nat} (h : n ≤ 2400) : n ≤ rmo n ∧ 120 ≤ rmo n ∧ rmo n ≤ 3840 := by
  unfold rmo
  simp only [rmf]
  repeat' (first | (split <;> try omega) | omega)
theorem rmo_2 {n m : Nat} (h : n ≤ 2400) (hm : m < n) : (m = 0 ∨ ∃ k, m = 120 * 2 ^ k) → 2 * m ≤ rmo n := by
  intro h0
  have h1 := rmo_ge h
  rcases h0 with h0 | ⟨k, hk⟩
  · omega
  · have hk5 : k < 5 := by
      apply Nat.lt_of_not_le
      intro z
      have : 2 ^ 5 ≤ 2 ^ k := Nat.pow_le_pow_right (by omega) z
      omega
    have : k = 0 ∨ k = 1 ∨ k = 2 ∨ k = 3 ∨ k = 4 := by omega
    unfold rmo at *
    simp only [rmf] at *
    rcases this with rfl | rfl | rfl | rfl | rfl <;> simp at hk <;> subst hk <;> (repeat' (first | (split <;> try omega) | omega))
theorem rmo_p {n : Nat} : ∃ k, rmo n = 120 * 2 ^ k := by
  unfold rmo
  have : ∀ d r, (∃ k, r = 120 * 2 ^ k) → ∃ k, rmf n d r = 120 * 2 ^ k := by
    intro d
    induction d with
    | zero => intro r h; exact h
    | succ d ih =>
      intro r h
      unfold rmf
      split
      · exact h
      · obtain ⟨k, e⟩ := h
        exact ih _ ⟨k + 1, by rw [e, Nat.pow_succ, Nat.mul_assoc]⟩
  exact this 8 120 ⟨0, rfl⟩
/-- the heap behind makeRoom, q fresh -/
def mr_h (h : am_H) (e b n q : Nat) : am_H := if n ≤ am_N h b then h else am_sR (am_nA h q 23 (rmo n)) 4 2 e (some q)
def mr_b (h : am_H) (b n q : Nat) : Nat := if n ≤ am_N h b then b else q
theorem ct_makeRoom {tt : Nat → Nat} {h : am_H} {e b n : Nat} (s : am_K h e = 5) (s2 : am_R h 4 2 e = some b) (s3 : am_K h b = 23) (s4 : am_N h b ≤ 3840) (hn : n ≤ 2400) (hu : am_N h b < n → am_U h + 1 ≤ am_LC ∧ am_V h + rmo n ≤ am_LS) : am_Ct tt 49 [.ref e, .int (Int32.ofNat n)] h (am_pV (fun h' => ∃ q, (am_N h b < n → am_K h q = 0) ∧ h' = mr_h h e b n q) no_x) := by
  have loop : ∀ (d j r : Nat), d + j = 8 → r * 2 ^ d ≤ 30720 → rmf n d r = rmo n → am_N h b < n →
      am_Ev tt 49 15 [some (.ref e), some (.int (Int32.ofNat n)), some (.int (Int32.ofNat r)), some (.int (Int32.ofNat j))] [] h (am_pV (fun h' => ∃ q, (am_N h b < n → am_K h q = 0) ∧ h' = mr_h h e b n q) no_x) := by
    have fin : ∀ (q : Nat), am_N h b < n → am_K h q = 0 → am_K (am_nA h q 23 (rmo n)) e = 5 ∧ ∃ q', (am_N h b < n → am_K h q' = 0) ∧ am_sR (am_nA h q 23 (rmo n)) 4 2 e (some q) = mr_h h e b n q' := by
      intro q hlt hq
      refine ⟨?_, q, fun _ => hq, ?_⟩
      · show va_up (am_K h) q 23 e = 5
        unfold va_up
        rw [if_neg (fun z => by rw [z, hq] at s; cases s)]
        exact s
      · rw [mr_h, if_neg (by omega)]
    intro d
    induction d with
    | zero =>
      intro j r e1 e2 e3 hlt
      have er : r = rmo n := e3
      have := rmo_ge hn
      refine vc_49_15 tt e _ _ _ _ _ _ ?_
      simp (disch := omega) only [qi_lt, qi_le, qi_eq, qi_nn, qi_in, qi_add, qi_l, ql_i, ql_lt, ql_le, ql_eq, ql_add, qc_lt, qc_eq, qc_ge, qc_gt, qc_le, true_and, and_true, and_self, true_or, or_true, false_or, or_false, false_and, and_false, not_true_eq_false, not_false_eq_true, Classical.not_not, true_implies, false_implies, implies_true, exists_eq_left, exists_eq_left', Option.some.injEq, reduceIte, Nat.reduceEqDiff, Nat.reduceLT, Nat.reduceLeDiff, Nat.reduceAdd, Nat.reduceSub, Nat.reduceMul, eq_self, ne_eq, and_imp, forall_const, reduceCtorEq, am_w, List.map_cons, List.map_nil, List.sum_cons, List.sum_nil, Value.category, Nat.zero_le, Nat.le_refl]
      refine ⟨fun _ => ⟨by omega, by omega, (hu hlt).1, by rw [er]; exact (hu hlt).2, fun q hq => by rw [er]; exact fin q hlt hq⟩, fun z => by omega⟩
    | succ d ih =>
      intro j r e1 e2 e3 hlt
      have h2 : r * 2 ^ (d + 1) = (r * 2) * 2 ^ d := by rw [Nat.pow_succ, Nat.mul_comm (2 ^ d) 2, Nat.mul_assoc]
      have h3 : 1 ≤ 2 ^ d := Nat.one_le_two_pow
      have h4 : r * 2 * 1 ≤ r * 2 * 2 ^ d := Nat.mul_le_mul_left _ h3
      refine vc_49_15 tt e _ _ _ _ _ _ ?_
      simp (disch := omega) only [qi_mul, qi_lt, qi_le, qi_eq, qi_nn, qi_in, qi_add, qi_l, ql_i, ql_lt, ql_le, ql_eq, ql_add, qc_lt, qc_eq, qc_ge, qc_gt, qc_le, true_and, and_true, and_self, true_or, or_true, false_or, or_false, false_and, and_false, not_true_eq_false, not_false_eq_true, Classical.not_not, true_implies, false_implies, implies_true, exists_eq_left, exists_eq_left', Option.some.injEq, reduceIte, Nat.reduceEqDiff, Nat.reduceLT, Nat.reduceLeDiff, Nat.reduceAdd, Nat.reduceSub, Nat.reduceMul, eq_self, ne_eq, and_imp, forall_const, reduceCtorEq, am_w, List.map_cons, List.map_nil, List.sum_cons, List.sum_nil, Value.category, Nat.zero_le, Nat.le_refl]
      unfold rmf at e3
      refine ⟨fun _ => by omega, fun _ => ⟨fun z => ?_, fun z => ?_⟩⟩
      · rw [if_pos z] at e3
        refine ⟨by omega, by omega, (hu hlt).1, by rw [e3]; exact (hu hlt).2, fun q hq => by rw [e3]; exact fin q hlt hq⟩
      · rw [if_neg z] at e3
        exact ih (j + 1) (r * 2) (by omega) (by omega) e3 hlt
  refine vc_49_0 tt e _ h _ _ ?_
  simp (disch := omega) only [s, s2, s3, am_hs, qi_lt, qi_le, qi_eq, qi_nn, qi_in, qi_add, qi_l, ql_i, ql_lt, ql_le, ql_eq, ql_add, qc_lt, qc_eq, qc_ge, qc_gt, qc_le, true_and, and_true, and_self, true_or, or_true, false_or, or_false, false_and, and_false, not_true_eq_false, not_false_eq_true, Classical.not_not, true_implies, false_implies, implies_true, exists_eq_left, exists_eq_left', Option.some.injEq, reduceIte, Nat.reduceEqDiff, Nat.reduceLT, Nat.reduceLeDiff, Nat.reduceAdd, Nat.reduceSub, Nat.reduceMul, eq_self, ne_eq, and_imp, forall_const, reduceCtorEq, am_w, List.map_cons, List.map_nil, List.sum_cons, List.sum_nil, Value.category, Nat.zero_le, Nat.le_refl]
  refine ⟨fun z => loop 8 0 120 (by omega) (by decide) rfl z, fun z => ⟨b, fun w => absurd w z, by rw [mr_h, if_pos (by omega)]⟩⟩
/-- n bytes of a long behind s others, the highest first -/
def apw (f : Nat → Int32) (s : Nat) (w : Int64) (n : Nat) (j : Nat) : Int32 := if s ≤ j ∧ j < s + n then lb w (n - 1 - (j - s)) else f j
theorem sA_sI {h : am_H} {a i c k e : Nat} {v x : Int32} : am_sA (am_sI h c k e x) a i v = am_sI (am_sA h a i v) c k e x := rfl
theorem ct_addBytes4 {tt : Nat → Nat} {h : am_H} {e b z n : Nat} {w : Int64} (s : am_K h e = 5) (s2 : am_R h 4 2 e = some b) (s3 : am_K h b = 23) (s4 : am_N h b ≤ 3840) (s5 : am_I h 4 3 e = Int32.ofNat z) (hz : z + n ≤ 120) (h1 : 1 ≤ n) (hn : n ≤ 8) (hu : am_N h b < z + n → am_U h + 1 ≤ am_LC ∧ am_V h + rmo (z + n) ≤ am_LS) :
    am_Ct tt 47 [.ref e, .long w, .int (Int32.ofNat n)] h (am_pV (fun h' => ∃ q, (am_N h b < z + n → am_K h q = 0) ∧ h' = am_sI (am_cA (mr_h h e b (z + n) q) (mr_b h b (z + n) q) (apw (am_A (mr_h h e b (z + n) q) (mr_b h b (z + n) q)) z w n)) 4 3 e (Int32.ofNat (z + n))) no_x) := by
  refine vc_47_0 tt e _ _ h _ _ ?_
  simp (disch := omega) only [s, s5, am_hs, qi_lt, qi_le, qi_eq, qi_nn, qi_in, qi_add, qi_l, ql_i, ql_lt, ql_le, ql_eq, ql_add, qc_lt, qc_eq, qc_ge, qc_gt, qc_le, true_and, and_true, and_self, true_or, or_true, false_or, or_false, false_and, and_false, not_true_eq_false, not_false_eq_true, Classical.not_not, true_implies, false_implies, implies_true, exists_eq_left, exists_eq_left', Option.some.injEq, reduceIte, Nat.reduceEqDiff, Nat.reduceLT, Nat.reduceLeDiff, Nat.reduceAdd, Nat.reduceSub, Nat.reduceMul, eq_self, ne_eq, and_imp, forall_const, reduceCtorEq, am_w, List.map_cons, List.map_nil, List.sum_cons, List.sum_nil, Value.category, Nat.zero_le, Nat.le_refl]
  refine ⟨_, _, ct_makeRoom s s2 s3 s4 (by omega) hu, fun k ek => ?_, fun _ _ z => z⟩
  obtain ⟨q, hq, rfl⟩ := ek
  have hrm := rmo_ge (show z + n ≤ 2400 by omega)
  -- the shape behind
  have t : am_K (mr_h h e b (z + n) q) e = 5 ∧ am_R (mr_h h e b (z + n) q) 4 2 e = some (mr_b h b (z + n) q) ∧ am_K (mr_h h e b (z + n) q) (mr_b h b (z + n) q) = 23 ∧ z + n ≤ am_N (mr_h h e b (z + n) q) (mr_b h b (z + n) q) ∧ am_N (mr_h h e b (z + n) q) (mr_b h b (z + n) q) ≤ 3840 ∧ am_I (mr_h h e b (z + n) q) 4 3 e = Int32.ofNat z := by
    unfold mr_h mr_b
    by_cases c : z + n ≤ am_N h b
    · rw [if_pos c, if_pos c]
      exact ⟨s, s2, s3, c, s4, s5⟩
    · rw [if_neg c, if_neg c]
      have hq' := hq (by omega)
      have ne : e ≠ q := fun w => by rw [w, hq'] at s; cases s
      refine ⟨?_, ?_, ?_, ?_, ?_, ?_⟩
      · show va_up (am_K h) q 23 e = 5
        rw [va_up, if_neg ne]; exact s
      · simp only [am_hs, true_and, and_true, and_self, true_or, or_true, false_or, or_false, false_and, and_false, not_true_eq_false, not_false_eq_true, Classical.not_not, true_implies, false_implies, implies_true, exists_eq_left, exists_eq_left', Option.some.injEq, reduceIte, Nat.reduceEqDiff, Nat.reduceLT, Nat.reduceLeDiff, Nat.reduceAdd, Nat.reduceSub, Nat.reduceMul, eq_self, ne_eq, and_imp, forall_const, reduceCtorEq, am_w, List.map_cons, List.map_nil, List.sum_cons, List.sum_nil, Value.category, Nat.zero_le, Nat.le_refl]
      · show va_up (am_K h) q 23 q = 23
        rw [va_up, if_pos rfl]
      · show z + n ≤ va_up (am_N h) q (rmo (z + n)) q
        rw [va_up, if_pos rfl]; exact hrm.1
      · show va_up (am_N h) q (rmo (z + n)) q ≤ 3840
        rw [va_up, if_pos rfl]; exact hrm.2.2
      · exact s5
  generalize ek : mr_h h e b (z + n) q = k at t ⊢
  generalize eb : mr_b h b (z + n) q = bb at t ⊢
  obtain ⟨t1, t2, t3, t4, t5, t6⟩ := t
  have key : ∀ (i j : Nat) (Q : am_H → Prop), i + j = n → Q (am_sI (am_cA k bb (apw (am_A k bb) z w n)) 4 3 e (Int32.ofNat (z + n))) →
      am_Ev tt 47 15 [some (.ref e), some (.long w), none, none, some (.int (Int32.ofNat i + (-1 : Int32)))] [] (am_sI (am_cA k bb (fun m => if z ≤ m ∧ m < z + j then lb w (n - 1 - (m - z)) else am_A k bb m)) 4 3 e (Int32.ofNat (z + j))) (am_pV Q no_x) := by
    intro i
    induction i with
    | zero =>
      intro j Q ej hQ
      have : j = n := by omega
      subst this
      refine vc_47_15 tt e _ _ _ _ _ ?_
      exact ⟨fun _ => hQ, fun z => absurd (show Int32.ofNat 0 + (-1 : Int32) < Int32.ofNat 0 by decide) z⟩
    | succ i ih =>
      intro j Q ej hQ
      rw [qi_dec (by omega), Nat.add_sub_cancel]
      refine vc_47_15 tt e _ _ _ _ _ ?_
      simp (disch := omega) only [t1, t2, t3, qi_mul, am_hs, qi_lt, qi_le, qi_eq, qi_nn, qi_in, qi_add, qi_l, ql_i, ql_lt, ql_le, ql_eq, ql_add, qc_lt, qc_eq, qc_ge, qc_gt, qc_le, true_and, and_true, and_self, true_or, or_true, false_or, or_false, false_and, and_false, not_true_eq_false, not_false_eq_true, Classical.not_not, true_implies, false_implies, implies_true, exists_eq_left, exists_eq_left', Option.some.injEq, reduceIte, Nat.reduceEqDiff, Nat.reduceLT, Nat.reduceLeDiff, Nat.reduceAdd, Nat.reduceSub, Nat.reduceMul, eq_self, ne_eq, and_imp, forall_const, reduceCtorEq, am_w, List.map_cons, List.map_nil, List.sum_cons, List.sum_nil, Value.category, Nat.zero_le, Nat.le_refl]
      refine ⟨fun z => by omega, fun _ => ⟨fun z => by omega, fun _ => ⟨by omega, ?_⟩⟩⟩
      rw [sA_sI, sI_sI, cA_sA, q8_8, lb_u (by omega), lb_88]
      have := ih (j + 1) Q (by omega) hQ
      have ef : va_up (fun m => if z ≤ m ∧ m < z + j then lb w (n - 1 - (m - z)) else am_A k bb m) (z + j) (lb w i) = (fun m => if z ≤ m ∧ m < z + (j + 1) then lb w (n - 1 - (m - z)) else am_A k bb m) := by
        funext m
        simp only [va_up]
        by_cases c : m = z + j
        · subst c
          rw [if_pos rfl, if_pos (by omega)]
          congr 1
          omega
        · rw [if_neg c]
          by_cases c2 : z ≤ m ∧ m < z + j
          · rw [if_pos c2, if_pos (by omega)]
          · rw [if_neg c2, if_neg (by omega)]
      rw [ef]
      exact this
  have h0 := key n 0 (fun h' => ∃ q, (am_N h b < z + n → am_K h q = 0) ∧ h' = am_sI (am_cA (mr_h h e b (z + n) q) (mr_b h b (z + n) q) (apw (am_A (mr_h h e b (z + n) q) (mr_b h b (z + n) q)) z w n)) 4 3 e (Int32.ofNat (z + n))) (by omega) ⟨q, hq, by rw [ek, eb]⟩
  have ef : (fun m => if z ≤ m ∧ m < z + 0 then lb w (n - 1 - (m - z)) else am_A k bb m) = am_A k bb := by funext m; rw [if_neg (by omega)]
  rw [ef, cA_id, Nat.add_zero, sI_id t6] at h0
  rw [show Int32.ofNat n - Int32.ofNat 1 = Int32.ofNat n + (-1 : Int32) from Int32.sub_eq_add_neg _ _]
  exact h0
theorem tk_cA {tt : Nat → Nat} {k : am_H} {b : Nat} {f : Nat → Int32} (hk : tk_s tt k) (hb : am_K k b ≠ 31) : tk_s tt (am_cA k b f) := by
  obtain ⟨k1, k2, k3, k4, k5, k6⟩ := hk
  have n1 : tt 1 ≠ b := fun e => hb (by rw [← e]; exact k1)
  have n0 : tt 0 ≠ b := fun e => hb (by rw [← e]; exact k4)
  refine ⟨k1, k2, fun j hj => ?_, k4, k5, fun j hj => ?_⟩
  · simp only [am_hs]; rw [if_neg n1]; exact k3 j hj
  · simp only [am_hs]; rw [if_neg n0]; exact k6 j hj
/-- the first n of a row are bytes of another from p on -/
def tkb (f g : Nat → Int32) (p n : Nat) (j : Nat) : Int32 := if j < n then by8 (g (p + j)) else f j
theorem ct_takeBytes {tt : Nat → Nat} {h : am_H} {e b z r p : Nat} {t : Int32} (hk : tk_s tt h) (s : am_K h e = 5) (s2 : am_R h 4 2 e = some b) (s3 : am_K h b = 23) (s4 : am_N h b ≤ 3840) (s5 : am_I h 4 3 e = Int32.ofNat z) (s6 : am_I h 4 11 e = t) (hz : z ≤ 2400) (hr : am_K h r = 23) (hrN : p + z ≤ am_N h r) (hrL : am_N h r ≤ 60000) (hne : r ≠ b) (hu : am_N h b < z → am_U h + 1 ≤ am_LC ∧ am_V h + rmo z ≤ am_LS) :
    am_Ct tt 48 [.ref e, .ref r, .int (Int32.ofNat p)] h (am_pV (fun h' => ∃ q, (am_N h b < z → am_K h q = 0) ∧ h' = am_sI (am_cA (mr_h h e b z q) (mr_b h b z q) (tkb (am_A (mr_h h e b z q) (mr_b h b z q)) (am_A h r) p z)) 4 12 e (b01 (decide (¬ ck (tkb (am_A (mr_h h e b z q) (mr_b h b z q)) (am_A h r) p z) 0 z = t)))) no_x) := by
  refine vc_48_0 tt e r _ h _ _ ?_
  simp (disch := omega) only [s, s5, am_hs, qi_lt, qi_le, qi_eq, qi_nn, qi_in, qi_add, qi_l, ql_i, ql_lt, ql_le, ql_eq, ql_add, qc_lt, qc_eq, qc_ge, qc_gt, qc_le, true_and, and_true, and_self, true_or, or_true, false_or, or_false, false_and, and_false, not_true_eq_false, not_false_eq_true, Classical.not_not, true_implies, false_implies, implies_true, exists_eq_left, exists_eq_left', Option.some.injEq, reduceIte, Nat.reduceEqDiff, Nat.reduceLT, Nat.reduceLeDiff, Nat.reduceAdd, Nat.reduceSub, Nat.reduceMul, eq_self, ne_eq, and_imp, forall_const, reduceCtorEq, am_w, List.map_cons, List.map_nil, List.sum_cons, List.sum_nil, Value.category, Nat.zero_le, Nat.le_refl]
  refine ⟨_, _, ct_makeRoom s s2 s3 s4 (by omega) hu, fun k ek => ?_, fun _ _ z => z⟩
  obtain ⟨q, hq, rfl⟩ := ek
  have hrm := rmo_ge (show z ≤ 2400 by omega)
  have tk : am_K (mr_h h e b z q) e = 5 ∧ am_R (mr_h h e b z q) 4 2 e = some (mr_b h b z q) ∧ am_K (mr_h h e b z q) (mr_b h b z q) = 23 ∧ z ≤ am_N (mr_h h e b z q) (mr_b h b z q) ∧ am_N (mr_h h e b z q) (mr_b h b z q) ≤ 3840 ∧ am_I (mr_h h e b z q) 4 3 e = Int32.ofNat z ∧ am_I (mr_h h e b z q) 4 11 e = t ∧ tk_s tt (mr_h h e b z q) ∧ am_K (mr_h h e b z q) r = 23 ∧ am_N (mr_h h e b z q) r = am_N h r ∧ am_A (mr_h h e b z q) r = am_A h r ∧ r ≠ mr_b h b z q := by
    unfold mr_h mr_b
    by_cases c : z ≤ am_N h b
    · rw [if_pos c, if_pos c]
      exact ⟨s, s2, s3, c, s4, s5, s6, hk, hr, rfl, rfl, hne⟩
    · rw [if_neg c, if_neg c]
      have hq' := hq (by omega)
      have ne : ∀ a, am_K h a ≠ 0 → a ≠ q := fun a ha w => ha (by rw [w, hq'])
      have nr := ne r (by omega)
      have n0 := ne (tt 0) (by rw [hk.2.2.2.1]; omega)
      have n1 := ne (tt 1) (by rw [hk.1]; omega)
      have up : ∀ {α : Type} (f : Nat → α) (v : α) (a : Nat), a ≠ q → va_up f q v a = f a := fun f v a z => by rw [va_up, if_neg z]
      have upq : ∀ {α : Type} (f : Nat → α) (v : α), va_up f q v q = v := fun f v => by rw [va_up, if_pos rfl]
      refine ⟨?_, ?_, ?_, ?_, ?_, s5, s6, ⟨?_, ?_, ?_, ?_, ?_, ?_⟩, ?_, ?_, ?_, nr⟩
      · exact (up (am_K h) 23 e (ne e (by omega))).trans s
      · simp only [am_hs, true_and, and_true, and_self, true_or, or_true, false_or, or_false, false_and, and_false, not_true_eq_false, not_false_eq_true, Classical.not_not, true_implies, false_implies, implies_true, exists_eq_left, exists_eq_left', Option.some.injEq, reduceIte, Nat.reduceEqDiff, Nat.reduceLT, Nat.reduceLeDiff, Nat.reduceAdd, Nat.reduceSub, Nat.reduceMul, eq_self, ne_eq, and_imp, forall_const, reduceCtorEq, am_w, List.map_cons, List.map_nil, List.sum_cons, List.sum_nil, Value.category, Nat.zero_le, Nat.le_refl]
      · exact upq (am_K h) 23
      · show z ≤ va_up (am_N h) q (rmo z) q
        rw [upq]; exact hrm.1
      · show va_up (am_N h) q (rmo z) q ≤ 3840
        rw [upq]; exact hrm.2.2
      · exact (up (am_K h) 23 _ n1).trans hk.1
      · exact (up (am_N h) (rmo z) _ n1).trans hk.2.1
      · intro j hj
        show va_up (am_A h) q (fun _ => 0) (tt 1) j = _
        rw [up _ _ _ n1]; exact hk.2.2.1 j hj
      · exact (up (am_K h) 23 _ n0).trans hk.2.2.2.1
      · exact (up (am_N h) (rmo z) _ n0).trans hk.2.2.2.2.1
      · intro j hj
        show va_up (am_A h) q (fun _ => 0) (tt 0) j = _
        rw [up _ _ _ n0]; exact hk.2.2.2.2.2 j hj
      · exact (up (am_K h) 23 _ nr).trans hr
      · exact up (am_N h) (rmo z) _ nr
      · exact up (am_A h) (fun _ => 0) _ nr
  generalize ek : mr_h h e b z q = k at tk ⊢
  generalize eb : mr_b h b z q = bb at tk ⊢
  obtain ⟨t1, t2, t3, t4, t5, t6, t7, t8, t9, t10, t11, t12⟩ := tk
  have fin : am_Ev tt 48 52 [some (.ref e), none, none, none] [] (am_cA k bb (tkb (am_A k bb) (am_A h r) p z)) (am_pV (fun h' => ∃ q, (am_N h b < z → am_K h q = 0) ∧ h' = am_sI (am_cA (mr_h h e b z q) (mr_b h b z q) (tkb (am_A (mr_h h e b z q) (mr_b h b z q)) (am_A h r) p z)) 4 12 e (b01 (decide (¬ ck (tkb (am_A (mr_h h e b z q) (mr_b h b z q)) (am_A h r) p z) 0 z = t)))) no_x) := by
    refine vc_48_52 tt e _ _ _ ?_
    simp (disch := omega) only [t1, t2, t6, am_hs, qi_lt, qi_le, qi_eq, qi_nn, qi_in, qi_add, qi_l, ql_i, ql_lt, ql_le, ql_eq, ql_add, qc_lt, qc_eq, qc_ge, qc_gt, qc_le, true_and, and_true, and_self, true_or, or_true, false_or, or_false, false_and, and_false, not_true_eq_false, not_false_eq_true, Classical.not_not, true_implies, false_implies, implies_true, exists_eq_left, exists_eq_left', Option.some.injEq, reduceIte, Nat.reduceEqDiff, Nat.reduceLT, Nat.reduceLeDiff, Nat.reduceAdd, Nat.reduceSub, Nat.reduceMul, eq_self, ne_eq, and_imp, forall_const, reduceCtorEq, am_w, List.map_cons, List.map_nil, List.sum_cons, List.sum_nil, Value.category, Nat.zero_le, Nat.le_refl]
    refine ⟨_, ct_checkOf (p := 0) (m := z) (tk_cA t8 (by rw [t3]; omega)) t3 (by omega) t4 (Nat.le_trans t5 (by omega)), fun x k' e' => ?_⟩
    obtain ⟨e1, e2⟩ := e'
    subst e1
    rw [cA_A, Nat.sub_zero] at e2
    simp (disch := omega) only [t1, t7, am_hs, qi_lt, qi_le, qi_eq, qi_nn, qi_in, qi_add, qi_l, ql_i, ql_lt, ql_le, ql_eq, ql_add, qc_lt, qc_eq, qc_ge, qc_gt, qc_le, true_and, and_true, and_self, true_or, or_true, false_or, or_false, false_and, and_false, not_true_eq_false, not_false_eq_true, Classical.not_not, true_implies, false_implies, implies_true, exists_eq_left, exists_eq_left', Option.some.injEq, reduceIte, Nat.reduceEqDiff, Nat.reduceLT, Nat.reduceLeDiff, Nat.reduceAdd, Nat.reduceSub, Nat.reduceMul, eq_self, ne_eq, and_imp, forall_const, reduceCtorEq, am_w, List.map_cons, List.map_nil, List.sum_cons, List.sum_nil, Value.category, Nat.zero_le, Nat.le_refl]
    refine ⟨fun w => ⟨q, hq, ?_⟩, fun w => ⟨q, hq, ?_⟩⟩
    · rw [ek, eb, ← e2, w]; simp [b01]
    · rw [ek, eb, ← e2]; simp [b01, w]
  have key : ∀ (d i : Nat), d + i = z →
      am_Ev tt 48 10 [some (.ref e), some (.ref r), some (.int (Int32.ofNat p)), some (.int (Int32.ofNat i))] [] (am_cA k bb (tkb (am_A k bb) (am_A h r) p i)) (am_pV (fun h' => ∃ q, (am_N h b < z → am_K h q = 0) ∧ h' = am_sI (am_cA (mr_h h e b z q) (mr_b h b z q) (tkb (am_A (mr_h h e b z q) (mr_b h b z q)) (am_A h r) p z)) 4 12 e (b01 (decide (¬ ck (tkb (am_A (mr_h h e b z q) (mr_b h b z q)) (am_A h r) p z) 0 z = t)))) no_x) := by
    intro d
    induction d with
    | zero =>
      intro i ei
      have : i = z := by omega
      subst this
      refine vc_48_10 tt e r _ _ _ _ _ ?_
      simp (disch := omega) only [t1, t6, am_hs, qi_lt, qi_le, qi_eq, qi_nn, qi_in, qi_add, qi_l, ql_i, ql_lt, ql_le, ql_eq, ql_add, qc_lt, qc_eq, qc_ge, qc_gt, qc_le, true_and, and_true, and_self, true_or, or_true, false_or, or_false, false_and, and_false, not_true_eq_false, not_false_eq_true, Classical.not_not, true_implies, false_implies, implies_true, exists_eq_left, exists_eq_left', Option.some.injEq, reduceIte, Nat.reduceEqDiff, Nat.reduceLT, Nat.reduceLeDiff, Nat.reduceAdd, Nat.reduceSub, Nat.reduceMul, eq_self, ne_eq, and_imp, forall_const, reduceCtorEq, am_w, List.map_cons, List.map_nil, List.sum_cons, List.sum_nil, Value.category, Nat.zero_le, Nat.le_refl]
      exact fin
    | succ d ih =>
      intro i ei
      refine vc_48_10 tt e r _ _ _ _ _ ?_
      have h11 : am_A (am_cA k bb (tkb (am_A k bb) (am_A h r) p i)) r = am_A h r := by
        simp only [am_hs]; rw [if_neg t12]; exact t11
      simp (disch := omega) only [t1, t2, t3, t6, t9, t10, h11, cA_sA, am_hs, qi_lt, qi_le, qi_eq, qi_nn, qi_in, qi_add, qi_l, ql_i, ql_lt, ql_le, ql_eq, ql_add, qc_lt, qc_eq, qc_ge, qc_gt, qc_le, true_and, and_true, and_self, true_or, or_true, false_or, or_false, false_and, and_false, not_true_eq_false, not_false_eq_true, Classical.not_not, true_implies, false_implies, implies_true, exists_eq_left, exists_eq_left', Option.some.injEq, reduceIte, Nat.reduceEqDiff, Nat.reduceLT, Nat.reduceLeDiff, Nat.reduceAdd, Nat.reduceSub, Nat.reduceMul, eq_self, ne_eq, and_imp, forall_const, reduceCtorEq, am_w, List.map_cons, List.map_nil, List.sum_cons, List.sum_nil, Value.category, Nat.zero_le, Nat.le_refl]
      refine ⟨fun w => by omega, fun _ => ⟨fun w => by omega, fun _ => ⟨fun w => by omega, fun _ => ⟨by omega, by omega, ?_⟩⟩⟩⟩
      have := ih (i + 1) (by omega)
      have ef : va_up (tkb (am_A k bb) (am_A h r) p i) i (am_A h r (p + i)).toInt8.toInt32 = tkb (am_A k bb) (am_A h r) p (i + 1) := by
        funext m
        simp only [va_up, tkb]
        by_cases c : m = i
        · subst c; rw [if_pos rfl, if_pos (by omega)]; rfl
        · rw [if_neg c]
          by_cases c2 : m < i
          · rw [if_pos c2, if_pos (by omega)]
          · rw [if_neg c2, if_neg (by omega)]
      rw [ef]
      exact this
  have h0 := key z 0 (by omega)
  have ef : tkb (am_A k bb) (am_A h r) p 0 = am_A k bb := by funext m; rw [tkb, if_neg (by omega)]
  rw [ef, cA_id] at h0
  exact h0
