/-! deps: 20t -/
/-! ===== the reference reads: the head ===== -/
/-! 199 yX10_head -/
theorem vc_199_0 (tt : Nat → Nat) (a0 : Nat) (h : am_H) (Q : am_H → Prop) (Qx : String → am_H → Prop) (q :
  (am_K h a0 = 11 ∧
  (((Int32.ofNat 32) ≤ (am_I h 10 19 a0) →
   am_Ev tt 199 21 [some (.ref a0), some (.int (Int32.ofNat 0))] [] h (am_pV Q Qx)) ∧
  (¬ ((Int32.ofNat 32) ≤ (am_I h 10 19 a0)) →
   (am_K h a0 = 11 ∧
   (am_K h a0 = 11 ∧ ∃ (Q2 : am_H → Prop) (X2 : String → am_H → Prop), am_Ct tt 177 [.ref a0, .int (Int32.ofNat 1), .int (am_I h 10 19 a0)] h (am_pV Q2 X2) ∧ (∀ h1, Q2 h1 →
    Q h1) ∧ (∀ E3 h1, X2 E3 h1 → Qx E3 h1))))))) :
  am_Ev tt 199 0 [some (.ref a0), none] [] h (am_pV Q Qx) := am_vc 12 [(21, [true, true]), (50, [true, true]), (92, [true, false]), (150, [true, false]), (157, [true, false])] q
theorem vc_199_21 (tt : Nat → Nat) (a0 : Nat) (a1 : Int32) (h : am_H) (Q : am_H → Prop) (Qx : String → am_H → Prop) (q :
  (((Int32.ofNat 8) ≤ a1 →
   (am_K h a0 = 11 ∧ ∃ (Q2 : Int32 → am_H → Prop) (X2 : String → am_H → Prop), am_Ct tt 176 [.ref a0] h (am_pI Q2 X2) ∧ (∀ x3 h1, Q2 x3 h1 →
    ((x3 = (Int32.ofNat 0) →
     am_Ev tt 199 92 [some (.ref a0), none] [] h1 (am_pV Q Qx)) ∧
    (¬ (x3 = (Int32.ofNat 0)) →
     (am_K h1 a0 = 11 ∧ ∃ (Q5 : Int64 → am_H → Prop) (X5 : String → am_H → Prop), am_Ct tt 153 [.ref a0, .int (Int32.ofNat 8), .int (Int32.ofNat 4)] h1 (am_pL Q5 X5) ∧ (∀ x6 h4, Q5 x6 h4 →
      (am_K h4 a0 = 11 ∧ ∃ q7, am_R h4 10 18 a0 = some q7 ∧
      (∃ (Q9 : Int32 → am_H → Prop) (X9 : String → am_H → Prop), am_Ct tt 131 [.ref q7, .int (Int32.ofNat 12), .int (Int32.ofNat 20)] h4 (am_pI Q9 X9) ∧ (∀ x10 h8, Q9 x10 h8 →
       (((x6).toInt32 = x10 →
        am_Ev tt 199 92 [some (.ref a0), none] [] h8 (am_pV Q Qx)) ∧
       (¬ ((x6).toInt32 = x10) →
        (am_K h8 a0 = 11 ∧ ∃ (Q12 : am_H → Prop) (X12 : String → am_H → Prop), am_Ct tt 177 [.ref a0, .int (Int32.ofNat 3), .int (Int32.ofNat 8)] h8 (am_pV Q12 X12) ∧ (∀ h11, Q12 h11 →
         am_Ev tt 199 92 [some (.ref a0), none] [] h11 (am_pV Q Qx)) ∧ (∀ E13 h11, X12 E13 h11 → Qx E13 h11))))) ∧ (∀ E14 h8, X9 E14 h8 → Qx E14 h8)))) ∧ (∀ E15 h4, X5 E15 h4 → Qx E15 h4))))) ∧ (∀ E16 h1, X2 E16 h1 → Qx E16 h1))) ∧
  (¬ ((Int32.ofNat 8) ≤ a1) →
   (am_K h a0 = 11 ∧ ∃ q17, am_R h 10 18 a0 = some q17 ∧
   ((am_K h q17 = 23 ∨ am_K h q17 = 24) ∧ vp_in a1 (am_N h q17) ∧
   (∃ (Q19 : Int32 → am_H → Prop) (X19 : String → am_H → Prop), am_Ct tt 175 [.int a1] h (am_pI Q19 X19) ∧ (∀ x20 h18, Q19 x20 h18 →
    ((((am_A h q17 (a1).toNatClampNeg) &&& (Int32.ofNat 255)) = x20 →
     am_Ev tt 199 50 [some (.ref a0), some (.int a1)] [] h18 (am_pV Q Qx)) ∧
    (¬ (((am_A h q17 (a1).toNatClampNeg) &&& (Int32.ofNat 255)) = x20) →
     (am_K h18 a0 = 11 ∧ ∃ (Q22 : am_H → Prop) (X22 : String → am_H → Prop), am_Ct tt 177 [.ref a0, .int (Int32.ofNat 2), .int a1] h18 (am_pV Q22 X22) ∧ (∀ h21, Q22 h21 →
      am_Ev tt 199 50 [some (.ref a0), some (.int a1)] [] h21 (am_pV Q Qx)) ∧ (∀ E23 h21, X22 E23 h21 → Qx E23 h21))))) ∧ (∀ E24 h18, X19 E24 h18 → Qx E24 h18))))))) :
  am_Ev tt 199 21 [some (.ref a0), some (.int a1)] [] h (am_pV Q Qx) := am_vc 24 [(21, [true, true]), (50, [true, true]), (92, [true, false]), (150, [true, false]), (157, [true, false])] q
theorem vc_199_50 (tt : Nat → Nat) (a0 : Nat) (a1 : Int32) (h : am_H) (Q : am_H → Prop) (Qx : String → am_H → Prop) (q :
  am_Ev tt 199 21 [some (.ref a0), some (.int (a1 + (Int32.ofNat 1)))] [] h (am_pV Q Qx)) :
  am_Ev tt 199 50 [some (.ref a0), some (.int a1)] [] h (am_pV Q Qx) := am_vc 5 [(21, [true, true]), (50, [true, true]), (92, [true, false]), (150, [true, false]), (157, [true, false])] q
theorem vc_199_92 (tt : Nat → Nat) (a0 : Nat) (h : am_H) (Q : am_H → Prop) (Qx : String → am_H → Prop) (q :
  (am_K h a0 = 11 ∧ ∃ (Q2 : Int64 → am_H → Prop) (X2 : String → am_H → Prop), am_Ct tt 153 [.ref a0, .int (Int32.ofNat 20), .int (Int32.ofNat 8)] h (am_pL Q2 X2) ∧ (∀ x3 h1, Q2 x3 h1 →
   ((¬ (lg_cmp x3 (Int64.ofNat 0)) = (Int32.ofNat 0) →
    (am_K h1 a0 = 11 ∧ ∃ (Q5 : Int32 → am_H → Prop) (X5 : String → am_H → Prop), am_Ct tt 176 [.ref a0] h1 (am_pI Q5 X5) ∧ (∀ x6 h4, Q5 x6 h4 →
     ((x6 = (Int32.ofNat 0) →
      am_Ev tt 199 157 [some (.ref a0), none] [] h4 (am_pV Q Qx)) ∧
     (¬ (x6 = (Int32.ofNat 0)) →
      (am_K h4 a0 = 11 ∧ ∃ (Q8 : Int32 → am_H → Prop) (X8 : String → am_H → Prop), am_Ct tt 155 [.ref a0] h4 (am_pI Q8 X8) ∧ (∀ x9 h7, Q8 x9 h7 →
       ((x9 = (Int32.ofNat 0) →
        am_Ev tt 199 150 [some (.ref a0), none] [] h7 (am_pV Q Qx)) ∧
       (¬ (x9 = (Int32.ofNat 0)) →
        (((Int32.ofNat 0) = (Int32.ofNat 0) →
         am_Ev tt 199 157 [some (.ref a0), none] [] h7 (am_pV Q Qx)) ∧
        (¬ ((Int32.ofNat 0) = (Int32.ofNat 0)) →
         (am_K h7 a0 = 11 ∧
         ((¬ (am_I h7 10 19 a0) = (Int32.ofNat 32) →
          am_Ev tt 199 150 [some (.ref a0), none] [] h7 (am_pV Q Qx)) ∧
         (¬ (¬ (am_I h7 10 19 a0) = (Int32.ofNat 32)) →
          (am_K h7 a0 = 11 ∧ ∃ (Q11 : Int64 → am_H → Prop) (X11 : String → am_H → Prop), am_Ct tt 153 [.ref a0, .int (Int32.ofNat 28), .int (Int32.ofNat 4)] h7 (am_pL Q11 X11) ∧ (∀ x12 h10, Q11 x12 h10 →
           (((lg_cmp x12 (Int64.ofNat 0)) = (Int32.ofNat 0) →
            am_Ev tt 199 157 [some (.ref a0), none] [] h10 (am_pV Q Qx)) ∧
           (¬ ((lg_cmp x12 (Int64.ofNat 0)) = (Int32.ofNat 0)) →
            am_Ev tt 199 150 [some (.ref a0), none] [] h10 (am_pV Q Qx)))) ∧ (∀ E13 h10, X11 E13 h10 → Qx E13 h10)))))))))) ∧ (∀ E14 h7, X8 E14 h7 → Qx E14 h7))))) ∧ (∀ E15 h4, X5 E15 h4 → Qx E15 h4))) ∧
   (¬ (¬ (lg_cmp x3 (Int64.ofNat 0)) = (Int32.ofNat 0)) →
    (am_K h1 a0 = 11 ∧ ∃ (Q17 : Int32 → am_H → Prop) (X17 : String → am_H → Prop), am_Ct tt 176 [.ref a0] h1 (am_pI Q17 X17) ∧ (∀ x18 h16, Q17 x18 h16 →
     ((x18 = (Int32.ofNat 0) →
      am_Ev tt 199 157 [some (.ref a0), none] [] h16 (am_pV Q Qx)) ∧
     (¬ (x18 = (Int32.ofNat 0)) →
      (am_K h16 a0 = 11 ∧ ∃ (Q20 : Int32 → am_H → Prop) (X20 : String → am_H → Prop), am_Ct tt 155 [.ref a0] h16 (am_pI Q20 X20) ∧ (∀ x21 h19, Q20 x21 h19 →
       ((x21 = (Int32.ofNat 0) →
        am_Ev tt 199 150 [some (.ref a0), none] [] h19 (am_pV Q Qx)) ∧
       (¬ (x21 = (Int32.ofNat 0)) →
        (((Int32.ofNat 1) = (Int32.ofNat 0) →
         am_Ev tt 199 157 [some (.ref a0), none] [] h19 (am_pV Q Qx)) ∧
        (¬ ((Int32.ofNat 1) = (Int32.ofNat 0)) →
         (am_K h19 a0 = 11 ∧
         ((¬ (am_I h19 10 19 a0) = (Int32.ofNat 32) →
          am_Ev tt 199 150 [some (.ref a0), none] [] h19 (am_pV Q Qx)) ∧
         (¬ (¬ (am_I h19 10 19 a0) = (Int32.ofNat 32)) →
          (am_K h19 a0 = 11 ∧ ∃ (Q23 : Int64 → am_H → Prop) (X23 : String → am_H → Prop), am_Ct tt 153 [.ref a0, .int (Int32.ofNat 28), .int (Int32.ofNat 4)] h19 (am_pL Q23 X23) ∧ (∀ x24 h22, Q23 x24 h22 →
           (((lg_cmp x24 (Int64.ofNat 0)) = (Int32.ofNat 0) →
            am_Ev tt 199 157 [some (.ref a0), none] [] h22 (am_pV Q Qx)) ∧
           (¬ ((lg_cmp x24 (Int64.ofNat 0)) = (Int32.ofNat 0)) →
            am_Ev tt 199 150 [some (.ref a0), none] [] h22 (am_pV Q Qx)))) ∧ (∀ E25 h22, X23 E25 h22 → Qx E25 h22)))))))))) ∧ (∀ E26 h19, X20 E26 h19 → Qx E26 h19))))) ∧ (∀ E27 h16, X17 E27 h16 → Qx E27 h16))))) ∧ (∀ E28 h1, X2 E28 h1 → Qx E28 h1))) :
  am_Ev tt 199 92 [some (.ref a0), none] [] h (am_pV Q Qx) := am_vc 32 [(21, [true, true]), (50, [true, true]), (92, [true, false]), (150, [true, false]), (157, [true, false])] q
theorem vc_199_150 (tt : Nat → Nat) (a0 : Nat) (h : am_H) (Q : am_H → Prop) (Qx : String → am_H → Prop) (q :
  (am_K h a0 = 11 ∧ ∃ (Q2 : am_H → Prop) (X2 : String → am_H → Prop), am_Ct tt 177 [.ref a0, .int (Int32.ofNat 5), .int (Int32.ofNat 12)] h (am_pV Q2 X2) ∧ (∀ h1, Q2 h1 →
   am_Ev tt 199 157 [some (.ref a0), none] [] h1 (am_pV Q Qx)) ∧ (∀ E3 h1, X2 E3 h1 → Qx E3 h1))) :
  am_Ev tt 199 150 [some (.ref a0), none] [] h (am_pV Q Qx) := am_vc 7 [(21, [true, true]), (50, [true, true]), (92, [true, false]), (150, [true, false]), (157, [true, false])] q
theorem vc_199_157 (tt : Nat → Nat) (a0 : Nat) (h : am_H) (Q : am_H → Prop) (Qx : String → am_H → Prop) (q :
  (am_K h a0 = 11 ∧ ∃ (Q2 : Int32 → am_H → Prop) (X2 : String → am_H → Prop), am_Ct tt 176 [.ref a0] h (am_pI Q2 X2) ∧ (∀ x3 h1, Q2 x3 h1 →
   ((x3 = (Int32.ofNat 0) →
    Q h1) ∧
   (¬ (x3 = (Int32.ofNat 0)) →
    (am_K h1 a0 = 11 ∧ ∃ (Q5 : Int64 → am_H → Prop) (X5 : String → am_H → Prop), am_Ct tt 153 [.ref a0, .int (Int32.ofNat 28), .int (Int32.ofNat 4)] h1 (am_pL Q5 X5) ∧ (∀ x6 h4, Q5 x6 h4 →
     (am_K h4 a0 = 11 ∧ ∃ q7, am_R h4 10 18 a0 = some q7 ∧
     (am_K h4 a0 = 11 ∧
     (am_K h4 a0 = 11 ∧ ∃ (Q9 : Int64 → am_H → Prop) (X9 : String → am_H → Prop), am_Ct tt 153 [.ref a0, .int (Int32.ofNat 20), .int (Int32.ofNat 8)] h4 (am_pL Q9 X9) ∧ (∀ x10 h8, Q9 x10 h8 →
      (am_K h8 a0 = 11 ∧ ∃ (Q12 : Int64 → am_H → Prop) (X12 : String → am_H → Prop), am_Ct tt 153 [.ref a0, .int (Int32.ofNat 20), .int (Int32.ofNat 8)] h8 (am_pL Q12 X12) ∧ (∀ x13 h11, Q12 x13 h11 →
       (∃ (Q15 : Int32 → am_H → Prop) (X15 : String → am_H → Prop), am_Ct tt 131 [.ref q7, .int ((am_I h4 10 19 a0) - (x10).toInt32), .int (x13).toInt32] h11 (am_pI Q15 X15) ∧ (∀ x16 h14, Q15 x16 h14 →
        (((x6).toInt32 = x16 →
         Q h14) ∧
        (¬ ((x6).toInt32 = x16) →
         (am_K h14 a0 = 11 ∧ ∃ (Q18 : am_H → Prop) (X18 : String → am_H → Prop), am_Ct tt 177 [.ref a0, .int (Int32.ofNat 4), .int (Int32.ofNat 28)] h14 (am_pV Q18 X18) ∧ (∀ h17, Q18 h17 →
          Q h17) ∧ (∀ E19 h17, X18 E19 h17 → Qx E19 h17))))) ∧ (∀ E20 h14, X15 E20 h14 → Qx E20 h14))) ∧ (∀ E21 h11, X12 E21 h11 → Qx E21 h11))) ∧ (∀ E22 h8, X9 E22 h8 → Qx E22 h8))))) ∧ (∀ E23 h4, X5 E23 h4 → Qx E23 h4))))) ∧ (∀ E24 h1, X2 E24 h1 → Qx E24 h1))) :
  am_Ev tt 199 157 [some (.ref a0), none] [] h (am_pV Q Qx) := am_vc 32 [(21, [true, true]), (50, [true, true]), (92, [true, false]), (150, [true, false]), (157, [true, false])] q

theorem lt4_0 {F : Fn} {p : Nat} : ((lt F p 4).toInt32 = Int32.ofNat 0) ↔ lt F p 4 = Int64.ofNat 0 := by
  refine ⟨fun h => ?_, fun h => by rw [h]; decide⟩
  apply Int64.toBitVec_inj.1
  apply BitVec.eq_of_getLsbD_eq
  intro i hi
  rw [show (Int64.ofNat 0).toBitVec = 0#64 from rfl, BitVec.getLsbD_zero]
  by_cases c : i < 32
  · have h2 := congrArg (fun x : Int32 => x.toBitVec.getLsbD i) h
    simp only [Int64.toBitVec_toInt32] at h2
    rw [BitVec.getLsbD_signExtend, if_pos (by omega), show (Int32.ofNat 0).toBitVec = 0#32 from rfl, BitVec.getLsbD_zero, decide_eq_true (show i < 32 by omega), Bool.true_and] at h2
    exact h2
  · rw [lt_bit (by omega), decide_eq_false (by omega), Bool.false_and]
def pH3 (F : Fn) (n : Nat) : Except pe Unit := if ¬ (lt F 28 4).toInt32 = ck F (32 + (lt F 12 8).toNatClampNeg) (n - (32 + (lt F 12 8).toNatClampNeg)) then .error (4, 28) else .ok ()
def pH2 (F : Fn) (n : Nat) : Except pe Unit := if toldB F n = false then .error (5, 12) else if lt F 20 8 = Int64.ofNat 0 ∧ (¬ lt F 12 8 = Int64.ofNat 0 ∨ ¬ (lt F 28 4).toInt32 = Int32.ofNat 0) then .error (5, 12) else pH3 F n
def ho (r : Except pe Unit) : Option pe := match r with
  | .error e => some e
  | .ok _ => none
def hb (o : Option pe) (r : Except pe Unit) : Except pe Unit := match o with
  | some e => .error e
  | none => r
section MHD
variable {tt : Nat → Nat} {F : Fn} {n m : Nat} {ad : Nat → Nat} {h h' h'' k k' : am_H} {o : Option pe} {X Y X' Y' : Nat → Prop} {r : Except pe Unit}
def HY (F : Fn) (n : Nat) (h : am_H) (m : Nat) (ad : Nat → Nat) (o : Option pe) : Prop := md_s h m ad ∧ am_I h 10 19 m = Int32.ofNat n ∧ n ≤ 5000 ∧ (∀ j, j < n → am_A h (ad 18) j = F j) ∧ (o = none → am_I h 10 20 m = Int32.ofNat 0) ∧ ∀ e, o = some e → 1 ≤ e.1 ∧ e.1 ≤ 8 ∧ am_I h 10 20 m = Int32.ofNat e.1 ∧ am_I h 10 28 m = Int32.ofNat e.2
theorem ct_hfine (y : HY F n h m ad o) : am_Ct tt 176 [.ref m] h (am_pI (fun v k => k = h ∧ v = b01 o.isNone) no_x) := by
  have k1 := y.1.1
  refine vc_176_0 tt _ h _ _ ?_
  cases o with
  | none =>
    have e := y.2.2.2.2.1 rfl
    simp (disch := omega) only [k1, e, qi_lt, qi_le, qi_eq, qi_nn, qi_in, qi_add, qi_l, ql_i, ql_lt, ql_le, ql_eq, ql_add, qc_lt, qc_eq, qc_ge, qc_gt, qc_le, true_and, and_true, and_self, true_or, or_true, false_or, or_false, false_and, and_false, not_true_eq_false, not_false_eq_true, Classical.not_not, true_implies, false_implies, implies_true, exists_eq_left, exists_eq_left', Option.some.injEq, reduceIte, Nat.reduceEqDiff, Nat.reduceLT, Nat.reduceLeDiff, Nat.reduceAdd, Nat.reduceSub, Nat.reduceMul, eq_self, ne_eq, and_imp, forall_const, reduceCtorEq, am_w, List.map_cons, List.map_nil, List.sum_cons, List.sum_nil, Value.category, Nat.zero_le, Nat.le_refl]
    rfl
  | some e =>
    obtain ⟨h1, h2, e1, _⟩ := y.2.2.2.2.2 e rfl
    simp (disch := omega) only [k1, e1, qi_lt, qi_le, qi_eq, qi_nn, qi_in, qi_add, qi_l, ql_i, ql_lt, ql_le, ql_eq, ql_add, qc_lt, qc_eq, qc_ge, qc_gt, qc_le, true_and, and_true, and_self, true_or, or_true, false_or, or_false, false_and, and_false, not_true_eq_false, not_false_eq_true, Classical.not_not, true_implies, false_implies, implies_true, exists_eq_left, exists_eq_left', Option.some.injEq, reduceIte, Nat.reduceEqDiff, Nat.reduceLT, Nat.reduceLeDiff, Nat.reduceAdd, Nat.reduceSub, Nat.reduceMul, eq_self, ne_eq, and_imp, forall_const, reduceCtorEq, am_w, List.map_cons, List.map_nil, List.sum_cons, List.sum_nil, Value.category, Nat.zero_le, Nat.le_refl]
    exact ⟨fun _ => rfl, fun z => by omega⟩
abbrev Yh (f : Nat) : Prop := f = 20 ∨ f = 28
theorem ct_hfails (y : HY F n h m ad o) {f pl : Nat} (h1 : 1 ≤ f) (h8 : f ≤ 8) : am_Ct tt 177 [.ref m, .int (Int32.ofNat f), .int (Int32.ofNat pl)] h (am_pV (fun k => HY F n k m ad (some (o.getD (f, pl))) ∧ mg m ad Xn Yh h k) no_x) := by
  have k1 := y.1.1
  refine vc_177_0 tt _ _ _ h _ _ ?_
  cases o with
  | none =>
    have e := y.2.2.2.2.1 rfl
    simp (disch := omega) only [k1, e, qi_lt, qi_le, qi_eq, qi_nn, qi_in, qi_add, qi_l, ql_i, ql_lt, ql_le, ql_eq, ql_add, qc_lt, qc_eq, qc_ge, qc_gt, qc_le, true_and, and_true, and_self, true_or, or_true, false_or, or_false, false_and, and_false, not_true_eq_false, not_false_eq_true, Classical.not_not, true_implies, false_implies, implies_true, exists_eq_left, exists_eq_left', Option.some.injEq, reduceIte, Nat.reduceEqDiff, Nat.reduceLT, Nat.reduceLeDiff, Nat.reduceAdd, Nat.reduceSub, Nat.reduceMul, eq_self, ne_eq, and_imp, forall_const, reduceCtorEq, am_w, List.map_cons, List.map_nil, List.sum_cons, List.sum_nil, Value.category, Nat.zero_le, Nat.le_refl]
    have g : mg m ad Xn Yh h (am_sI (am_sI h 10 20 m (Int32.ofNat f)) 10 28 m (Int32.ofNat pl)) := (mg.sI (by omega)).tr (mg.sI (by omega))
    obtain ⟨y1, y2, y3, y4, _, _⟩ := y
    refine ⟨⟨g.1.md y1, by rw [(g.2.2 19 (by omega)).1]; exact y2, y3, fun j hj => by rw [(g.2.1 18 (fun z => z)).1]; exact y4 j hj, (fun z => by cases z), fun e z => ?_⟩, g⟩
    cases z
    exact ⟨h1, h8, by simp only [am_hs, true_and, and_true, and_self, true_or, or_true, false_or, or_false, false_and, and_false, not_true_eq_false, not_false_eq_true, Classical.not_not, true_implies, false_implies, implies_true, exists_eq_left, exists_eq_left', Option.some.injEq, reduceIte, Nat.reduceEqDiff, Nat.reduceLT, Nat.reduceLeDiff, Nat.reduceAdd, Nat.reduceSub, Nat.reduceMul, eq_self, ne_eq, and_imp, forall_const, reduceCtorEq, am_w, List.map_cons, List.map_nil, List.sum_cons, List.sum_nil, Value.category, Nat.zero_le, Nat.le_refl]; rfl, by simp only [am_hs, true_and, and_true, and_self, true_or, or_true, false_or, or_false, false_and, and_false, not_true_eq_false, not_false_eq_true, Classical.not_not, true_implies, false_implies, implies_true, exists_eq_left, exists_eq_left', Option.some.injEq, reduceIte, Nat.reduceEqDiff, Nat.reduceLT, Nat.reduceLeDiff, Nat.reduceAdd, Nat.reduceSub, Nat.reduceMul, eq_self, ne_eq, and_imp, forall_const, reduceCtorEq, am_w, List.map_cons, List.map_nil, List.sum_cons, List.sum_nil, Value.category, Nat.zero_le, Nat.le_refl]; rfl⟩
  | some e =>
    obtain ⟨g1, g2, e1, _⟩ := y.2.2.2.2.2 e rfl
    simp (disch := omega) only [k1, e1, qi_lt, qi_le, qi_eq, qi_nn, qi_in, qi_add, qi_l, ql_i, ql_lt, ql_le, ql_eq, ql_add, qc_lt, qc_eq, qc_ge, qc_gt, qc_le, true_and, and_true, and_self, true_or, or_true, false_or, or_false, false_and, and_false, not_true_eq_false, not_false_eq_true, Classical.not_not, true_implies, false_implies, implies_true, exists_eq_left, exists_eq_left', Option.some.injEq, reduceIte, Nat.reduceEqDiff, Nat.reduceLT, Nat.reduceLeDiff, Nat.reduceAdd, Nat.reduceSub, Nat.reduceMul, eq_self, ne_eq, and_imp, forall_const, reduceCtorEq, am_w, List.map_cons, List.map_nil, List.sum_cons, List.sum_nil, Value.category, Nat.zero_le, Nat.le_refl]
    exact ⟨fun _ => ⟨y, mg.re⟩, fun z => by omega⟩
def hdQ (F : Fn) (n m : Nat) (ad : Nat → Nat) (h : am_H) (r : Except pe Unit) (k : am_H) : Prop := HY F n k m ad (ho r) ∧ mg m ad Xn Yh h k
theorem hd_157 (n32 : 32 ≤ n) (y : HY F n k m ad o) (g : mg m ad Xn Yh h k) (hr : r = hb o (pH3 F n)) (ht : o = none → told F n) : am_Ev tt 199 157 [some (.ref m), none] [] k (am_pV (hdQ F n m ad h r) no_x) := by
  have kk := y.1.1
  have n5 := y.2.2.1
  refine vc_199_157 tt _ _ _ _ ⟨kk, _, _, ct_hfine y, fun z k1 e1 => ?_, fun _ _ z => z.elim⟩
  obtain ⟨rfl, rfl⟩ := e1
  cases o with
  | some e =>
    refine ⟨fun _ => ?_, fun z => absurd rfl z⟩
    rw [hr]
    exact ⟨y, g⟩
  | none =>
    have hr : r = pH3 F n := hr
    rw [pH3] at hr
    obtain ⟨of, sz, eo, ez, en⟩ := told_n n5 (ht rfl)
    obtain ⟨b1, b2, b3⟩ := md_r y.1 (k := 18) (by decide) rfl (by decide)
    have e19 := y.2.1
    have hA := y.2.2.2.1
    have l28 : lt (am_A k1 (ad 18)) 28 4 = lt F 28 4 := lt_fr (fun j h1 h2 => hA j (by omega))
    have l20 : lt (am_A k1 (ad 18)) 20 8 = lt F 20 8 := lt_fr (fun j h1 h2 => hA j (by omega))
    refine ⟨fun z => absurd z (show ¬ Int32.ofNat 1 = Int32.ofNat 0 by decide), fun _ => ⟨kk, _, _, ct_little y.1 (p := 28) (n := 4) (by omega) (by omega), fun x k2 e2 => ?_, fun _ _ z => z.elim⟩⟩
    obtain ⟨rfl, rfl⟩ := e2
    refine ⟨kk, _, b1, kk, kk, _, _, ct_little y.1 (p := 20) (n := 8) (by omega) (by omega), fun x k3 e3 => ?_, fun _ _ z => z.elim⟩
    obtain ⟨rfl, rfl⟩ := e3
    refine ⟨kk, _, _, ct_little y.1 (p := 20) (n := 8) (by omega) (by omega), fun x k4 e4 => ?_, fun _ _ z => z.elim⟩
    obtain ⟨rfl, rfl⟩ := e4
    rw [l20, l28, ez, ql_i, e19, qi_sub (by omega)]
    refine ⟨_, _, ct_check b2 (by rw [b3]; omega) (by rw [b3]; omega), fun x k5 e5 => ?_, fun _ _ z => z.elim⟩
    obtain ⟨rfl, rfl⟩ := e5
    have c1 : (Int64.ofNat of).toNatClampNeg = of := Int64.toNatClampNeg_ofNat_of_lt (by omega)
    rw [eo, c1, show n - (32 + of) = sz by omega] at hr
    rw [ck_fr (f := am_A k5 (ad 18)) (g := F) (fun j h1 h2 => hA j (by omega)), show n - sz = 32 + of by omega]
    refine ⟨fun c => ?_, fun c => ⟨kk, _, _, ct_hfails y (f := 4) (pl := 28) (by omega) (by omega), fun k6 w6 => ?_, fun _ _ z => z.elim⟩⟩
    · rw [if_neg (fun z => z c)] at hr
      rw [hr]
      exact ⟨y, g⟩
    · rw [if_pos c] at hr
      rw [hr]
      exact ⟨w6.1, g.tr w6.2⟩
theorem hd_150 (n32 : 32 ≤ n) (y : HY F n k m ad none) (g : mg m ad Xn Yh h k) (hr : r = .error (5, 12)) : am_Ev tt 199 150 [some (.ref m), none] [] k (am_pV (hdQ F n m ad h r) no_x) := by
  refine vc_199_150 tt _ _ _ _ ⟨y.1.1, _, _, ct_hfails y (f := 5) (pl := 12) (by omega) (by omega), fun k1 w1 => ?_, fun _ _ z => z.elim⟩
  exact hd_157 (o := some (5, 12)) n32 w1.1 (g.tr w1.2) hr (fun z => by cases z)
theorem hd_92 (n32 : 32 ≤ n) (y : HY F n k m ad o) (g : mg m ad Xn Yh h k) (hr : r = hb o (pH2 F n)) : am_Ev tt 199 92 [some (.ref m), none] [] k (am_pV (hdQ F n m ad h r) no_x) := by
  have kk := y.1.1
  have n5 := y.2.2.1
  have hA := y.2.2.2.1
  have e19 := y.2.1
  have l28 : lt (am_A k (ad 18)) 28 4 = lt F 28 4 := lt_fr (fun j h1 h2 => hA j (by omega))
  have l20 : lt (am_A k (ad 18)) 20 8 = lt F 20 8 := lt_fr (fun j h1 h2 => hA j (by omega))
  refine vc_199_92 tt _ _ _ _ ⟨kk, _, _, ct_little y.1 (p := 20) (n := 8) (by omega) (by omega), fun x k1 e1 => ?_, fun _ _ z => z.elim⟩
  obtain ⟨rfl, rfl⟩ := e1
  rw [l20, qc_eq]
  cases o with
  | some e =>
    refine ⟨fun _ => ⟨kk, _, _, ct_hfine y, fun z k2 e2 => ?_, fun _ _ z => z.elim⟩, fun _ => ⟨kk, _, _, ct_hfine y, fun z k2 e2 => ?_, fun _ _ z => z.elim⟩⟩
    · obtain ⟨rfl, rfl⟩ := e2
      exact ⟨fun _ => hd_157 n32 y g hr (fun z => by cases z), fun z => absurd rfl z⟩
    · obtain ⟨rfl, rfl⟩ := e2
      exact ⟨fun _ => hd_157 n32 y g hr (fun z => by cases z), fun z => absurd rfl z⟩
  | none =>
    have hr : r = pH2 F n := hr
    rw [pH2] at hr
    have tf : told (am_A k1 (ad 18)) n = told F n := told_fr (fun j hj => hA j hj) n32
    refine ⟨fun c => ⟨kk, _, _, ct_hfine y, fun z k2 e2 => ?_, fun _ _ z => z.elim⟩, fun c => ⟨kk, _, _, ct_hfine y, fun z k2 e2 => ?_, fun _ _ z => z.elim⟩⟩
    · obtain ⟨rfl, rfl⟩ := e2
      refine ⟨fun z => absurd z (show ¬ Int32.ofNat 1 = Int32.ofNat 0 by decide), fun _ => ⟨kk, _, _, ct_isMeasured y.1 n5 e19, fun v k3 e3 => ?_, fun _ _ z => z.elim⟩⟩
      obtain ⟨rfl, e3⟩ := e3
      rw [tf] at e3
      rcases e3 with ⟨rfl, t⟩ | ⟨rfl, t⟩
      · rw [toldB_t.2 t, if_neg (by decide), if_neg (fun z => c z.1)] at hr
        refine ⟨fun z => absurd z (show ¬ Int32.ofNat 1 = Int32.ofNat 0 by decide), fun _ => ⟨fun _ => hd_157 (o := none) n32 y g hr (fun _ => t), fun z => absurd rfl z⟩⟩
      · rw [show toldB F n = false from by cases hq : toldB F n with | false => rfl | true => exact absurd (toldB_t.1 hq) t, if_pos rfl] at hr
        exact ⟨fun _ => hd_150 n32 y g hr, fun z => absurd rfl z⟩
    · have c := Classical.not_not.1 c
      obtain ⟨rfl, rfl⟩ := e2
      refine ⟨fun z => absurd z (show ¬ Int32.ofNat 1 = Int32.ofNat 0 by decide), fun _ => ⟨kk, _, _, ct_isMeasured y.1 n5 e19, fun v k3 e3 => ?_, fun _ _ z => z.elim⟩⟩
      obtain ⟨rfl, e3⟩ := e3
      rw [tf] at e3
      rcases e3 with ⟨rfl, t⟩ | ⟨rfl, t⟩
      · rw [toldB_t.2 t, if_neg (by decide)] at hr
        obtain ⟨of, sz, eo, ez, en⟩ := told_n n5 t
        have z0 : sz = 0 := by
          rw [ez, ql_eq (by omega) (by omega)] at c
          exact c
        refine ⟨fun z => absurd z (show ¬ Int32.ofNat 1 = Int32.ofNat 0 by decide), fun _ => ⟨fun z => absurd z (show ¬ Int32.ofNat 1 = Int32.ofNat 0 by decide), fun _ => ⟨kk, ?_⟩⟩⟩
        rw [e19, qi_eq (by omega) (by omega)]
        refine ⟨fun c3 => ?_, fun c3 => ⟨kk, _, _, ct_little y.1 (p := 28) (n := 4) (by omega) (by omega), fun x k4 e4 => ?_, fun _ _ z => z.elim⟩⟩
        · rw [if_pos ⟨c, Or.inl (by rw [eo, ql_eq (by omega) (by omega)]; omega)⟩] at hr
          exact hd_150 n32 y g hr
        · obtain ⟨rfl, rfl⟩ := e4
          have c3 := Classical.not_not.1 c3
          have o0 : of = 0 := by omega
          rw [l28, qc_eq]
          refine ⟨fun c4 => ?_, fun c4 => ?_⟩
          · rw [if_neg (fun z => z.2.elim (fun w => w (by rw [eo, o0])) (fun w => w (lt4_0.2 c4)))] at hr
            exact hd_157 (o := none) n32 y g hr (fun _ => t)
          · rw [if_pos ⟨c, Or.inr (fun w => c4 (lt4_0.1 w))⟩] at hr
            exact hd_150 n32 y g hr
      · rw [show toldB F n = false from by cases hq : toldB F n with | false => rfl | true => exact absurd (toldB_t.1 hq) t, if_pos rfl] at hr
        exact ⟨fun _ => hd_150 n32 y g hr, fun z => absurd rfl z⟩
theorem ct_rhead (y : HY F n h m ad none) (hr : r = pHD F n) : am_Ct tt 199 [.ref m] h (am_pV (hdQ F n m ad h r) no_x) := by
  have kk := y.1.1
  have n5 := y.2.2.1
  have e19 := y.2.1
  rw [pHD] at hr
  refine vc_199_0 tt _ h _ _ ⟨kk, ?_⟩
  rw [e19, qi_le (by omega) (by omega)]
  refine ⟨fun n32 => ?_, fun c => ⟨kk, kk, _, _, ct_hfails y (f := 1) (pl := n) (by omega) (by omega), fun k1 w1 => ?_, fun _ _ z => z.elim⟩⟩
  · rw [if_neg (by omega)] at hr
    have hr : r = hb ((fX F 8 0).map fun i => (2, i)) (if ¬ (lt F 8 4).toInt32 = ck F 12 20 then .error (3, 8) else pH2 F n) := by
      rw [hr]
      cases fX F 8 0 with
      | none => rfl
      | some i => rfl
    have key : ∀ (d i : Nat) (k : am_H) (o : Option pe), d + i = 8 → HY F n k m ad o → mg m ad Xn Yh h k → (match o with | some e => some e | none => (fX F d i).map fun i => ((2, i) : pe)) = ((fX F 8 0).map fun i => ((2, i) : pe)) → am_Ev tt 199 21 [some (.ref m), some (.int (Int32.ofNat i))] [] k (am_pV (hdQ F n m ad h r) no_x) := by
      intro d
      induction d with
      | zero =>
        intro i k o ei y g ho
        have : i = 8 := by omega
        subst this
        have ho : o = ((fX F 8 0).map fun i => ((2, i) : pe)) := by
          rw [← ho]
          cases o with
          | none => rfl
          | some e => rfl
        rw [← ho] at hr
        have kk := y.1.1
        have hA := y.2.2.2.1
        obtain ⟨b1, b2, b3⟩ := md_r y.1 (k := 18) (by decide) rfl (by decide)
        refine vc_199_21 tt _ _ _ _ _ ⟨fun _ => ⟨kk, _, _, ct_hfine y, fun z k1 e1 => ?_, fun _ _ z => z.elim⟩, fun z => absurd (Int32.le_refl _) z⟩
        obtain ⟨rfl, rfl⟩ := e1
        cases o with
        | some e => exact ⟨fun _ => hd_92 n32 y g hr, fun z => absurd rfl z⟩
        | none =>
          have hr : r = if ¬ (lt F 8 4).toInt32 = ck F 12 20 then .error (3, 8) else pH2 F n := hr
          refine ⟨fun z => absurd z (show ¬ Int32.ofNat 1 = Int32.ofNat 0 by decide), fun _ => ⟨kk, _, _, ct_little y.1 (p := 8) (n := 4) (by omega) (by omega), fun x k2 e2 => ?_, fun _ _ z => z.elim⟩⟩
          obtain ⟨rfl, rfl⟩ := e2
          refine ⟨kk, _, b1, _, _, ct_check (p := 12) (n := 20) b2 (by rw [b3]; omega) (by rw [b3]; omega), fun x k3 e3 => ?_, fun _ _ z => z.elim⟩
          obtain ⟨rfl, rfl⟩ := e3
          rw [ck_fr (f := am_A k3 (ad 18)) (g := F) (fun j h1 h2 => hA j (by omega)), lt_fr (f := am_A k3 (ad 18)) (g := F) (fun j h1 h2 => hA j (by omega))]
          refine ⟨fun c => ?_, fun c => ⟨kk, _, _, ct_hfails y (f := 3) (pl := 8) (by omega) (by omega), fun k4 w4 => ?_, fun _ _ z => z.elim⟩⟩
          · rw [if_neg (fun z => z c)] at hr
            exact hd_92 (o := none) n32 y g hr
          · rw [if_pos c] at hr
            exact hd_92 (o := some (3, 8)) n32 w4.1 (g.tr w4.2) hr
      | succ d ih =>
        intro i k o ei y g ho
        have kk := y.1.1
        have hA := y.2.2.2.1 i (by omega)
        have i8 : ¬ 8 ≤ i := by omega
        have i5 : i < 5000 := by omega
        obtain ⟨b1, b2, b3⟩ := md_r y.1 (k := 18) (by decide) rfl (by decide)
        refine vc_199_21 tt _ _ _ _ _ ?_
        simp (disch := omega) only [kk, i8, i5, b1, b2, b3, hA, qi_lt, qi_le, qi_eq, qi_nn, qi_in, qi_add, qi_l, ql_i, ql_lt, ql_le, ql_eq, ql_add, qc_lt, qc_eq, qc_ge, qc_gt, qc_le, true_and, and_true, and_self, true_or, or_true, false_or, or_false, false_and, and_false, not_true_eq_false, not_false_eq_true, Classical.not_not, true_implies, false_implies, implies_true, exists_eq_left, exists_eq_left', Option.some.injEq, reduceIte, Nat.reduceEqDiff, Nat.reduceLT, Nat.reduceLeDiff, Nat.reduceAdd, Nat.reduceSub, Nat.reduceMul, eq_self, ne_eq, and_imp, forall_const, reduceCtorEq, am_w, List.map_cons, List.map_nil, List.sum_cons, List.sum_nil, Value.category, Nat.zero_le, Nat.le_refl]
        refine ⟨_, _, ct_sign (by omega), fun x k1 e1 => ?_, fun _ _ z => z.elim⟩
        obtain ⟨rfl, rfl⟩ := e1
        rw [fX] at ho
        refine ⟨fun c => ?_, fun c => ⟨kk, _, _, ct_hfails y (f := 2) (pl := i) (by omega) (by omega), fun k2 w2 => ?_, fun _ _ z => z.elim⟩⟩
        · rw [if_pos c] at ho
          refine vc_199_50 tt _ _ _ _ _ ?_
          rw [qi_add]
          exact ih (i + 1) k1 o (by omega) y g ho
        · rw [if_neg c] at ho
          refine vc_199_50 tt _ _ _ _ _ ?_
          rw [qi_add]
          refine ih (i + 1) k2 _ (by omega) w2.1 (g.tr w2.2) ?_
          rw [← ho]
          cases o with
          | none => rfl
          | some e => rfl
    exact key 8 0 h none (by omega) y mg.re rfl
  · rw [if_pos (by omega)] at hr
    rw [hr]
    exact w1
end MHD
