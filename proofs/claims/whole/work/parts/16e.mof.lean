/-! deps: 16d -/
/-! ===== the reference's calls: of, number, at, coderAt ===== -/
/-! 142 yX10_of -/
theorem vc_142_0 (tt : Nat → Nat) (a0 : Nat) (a1 : Int32) (a2 : Int32) (h : am_H) (Q : Int32 → am_H → Prop) (Qx : String → am_H → Prop) (q :
  (am_K h a0 = 11 ∧
  (am_K h a0 = 11 ∧ ∃ (Q2 : Int32 → am_H → Prop) (X2 : String → am_H → Prop), am_Ct tt 134 [.ref a0, .int a1] (am_sI h 10 0 a0 (Int32.ofNat 0)) (am_pI Q2 X2) ∧ (∀ x3 h1, Q2 x3 h1 →
   ((x3 = (Int32.ofNat 0) →
    Q (-2 : Int32) h1) ∧
   (¬ (x3 = (Int32.ofNat 0)) →
    (∃ (Q5 : Int32 → am_H → Prop) (X5 : String → am_H → Prop), am_Ct tt 130 [.long (a2).toInt64, .long (Int64.ofNat 0), .long (Int64.ofNat 8)] h1 (am_pI Q5 X5) ∧ (∀ x6 h4, Q5 x6 h4 →
     ((¬ x6 = (Int32.ofNat 0) →
      (((a2).toInt < 0 ∨ 7 < (a2).toInt →
       (am_K h4 a0 = 11 ∧ ∃ (Q8 : Int32 → am_H → Prop) (X8 : String → am_H → Prop), am_Ct tt 143 [.ref a0, .int a1] h4 (am_pI Q8 X8) ∧ (∀ x9 h7, Q8 x9 h7 →
        ((x9 = (Int32.ofNat 0) →
         Q (Int32.ofNat 0) h7) ∧
        (¬ (x9 = (Int32.ofNat 0)) →
         Q (Int32.ofNat 1) h7))) ∧ (∀ E10 h7, X8 E10 h7 → Qx E10 h7))) ∧
      ((a2).toInt = 0 →
       (am_K h4 a0 = 11 ∧ ∃ q11, am_R h4 10 2 a0 = some q11 ∧
       ((am_K h4 q11 = 21 ∨ am_K h4 q11 = 31) ∧ vp_in a1 (am_N h4 q11) ∧
       Q (am_A h4 q11 (a1).toNatClampNeg) h4))) ∧
      ((a2).toInt = 1 →
       (am_K h4 a0 = 11 ∧ ∃ q12, am_R h4 10 9 a0 = some q12 ∧
       ((am_K h4 q12 = 21 ∨ am_K h4 q12 = 31) ∧ vp_in a1 (am_N h4 q12) ∧
       Q (am_A h4 q12 (a1).toNatClampNeg) h4))) ∧
      ((a2).toInt = 2 →
       (am_K h4 a0 = 11 ∧ ∃ q13, am_R h4 10 11 a0 = some q13 ∧
       ((am_K h4 q13 = 21 ∨ am_K h4 q13 = 31) ∧ vp_in a1 (am_N h4 q13) ∧
       Q (am_A h4 q13 (a1).toNatClampNeg) h4))) ∧
      ((a2).toInt = 3 →
       (am_K h4 a0 = 11 ∧ ∃ q14, am_R h4 10 3 a0 = some q14 ∧
       ((am_K h4 q14 = 21 ∨ am_K h4 q14 = 31) ∧ vp_in a1 (am_N h4 q14) ∧
       Q (am_A h4 q14 (a1).toNatClampNeg) h4))) ∧
      ((a2).toInt = 4 →
       (am_K h4 a0 = 11 ∧ ∃ q15, am_R h4 10 12 a0 = some q15 ∧
       ((am_K h4 q15 = 23 ∨ am_K h4 q15 = 24) ∧ vp_in a1 (am_N h4 q15) ∧
       (((am_A h4 q15 (a1).toNatClampNeg) = (Int32.ofNat 0) →
        Q (Int32.ofNat 0) h4) ∧
       (¬ ((am_A h4 q15 (a1).toNatClampNeg) = (Int32.ofNat 0)) →
        Q (Int32.ofNat 1) h4))))) ∧
      ((a2).toInt = 5 →
       (am_K h4 a0 = 11 ∧ ∃ q16, am_R h4 10 5 a0 = some q16 ∧
       ((am_K h4 q16 = 23 ∨ am_K h4 q16 = 24) ∧ vp_in a1 (am_N h4 q16) ∧
       (((am_A h4 q16 (a1).toNatClampNeg) = (Int32.ofNat 0) →
        Q (Int32.ofNat 0) h4) ∧
       (¬ ((am_A h4 q16 (a1).toNatClampNeg) = (Int32.ofNat 0)) →
        Q (Int32.ofNat 1) h4))))) ∧
      ((a2).toInt = 6 →
       (am_K h4 a0 = 11 ∧ ∃ q17, am_R h4 10 7 a0 = some q17 ∧
       ((am_K h4 q17 = 23 ∨ am_K h4 q17 = 24) ∧ vp_in a1 (am_N h4 q17) ∧
       (((am_A h4 q17 (a1).toNatClampNeg) = (Int32.ofNat 0) →
        Q (Int32.ofNat 0) h4) ∧
       (¬ ((am_A h4 q17 (a1).toNatClampNeg) = (Int32.ofNat 0)) →
        Q (Int32.ofNat 1) h4))))) ∧
      ((a2).toInt = 7 →
       (am_K h4 a0 = 11 ∧ ∃ q18, am_R h4 10 13 a0 = some q18 ∧
       ((am_K h4 q18 = 23 ∨ am_K h4 q18 = 24) ∧ vp_in a1 (am_N h4 q18) ∧
       (((am_A h4 q18 (a1).toNatClampNeg) = (Int32.ofNat 0) →
        Q (Int32.ofNat 0) h4) ∧
       (¬ ((am_A h4 q18 (a1).toNatClampNeg) = (Int32.ofNat 0)) →
        Q (Int32.ofNat 1) h4))))) ∧
      True)) ∧
     (¬ (¬ x6 = (Int32.ofNat 0)) →
      Q (-2 : Int32) h4))) ∧ (∀ E19 h4, X5 E19 h4 → Qx E19 h4))))) ∧ (∀ E20 h1, X2 E20 h1 → Qx E20 h1)))) :
  am_Ev tt 142 0 [some (.ref a0), some (.int a1), some (.int a2)] [] h (am_pI Q Qx) := am_vc 25 [] q

/-! 143 yX10_isLost -/
theorem vc_143_0 (tt : Nat → Nat) (a0 : Nat) (a1 : Int32) (h : am_H) (Q : Int32 → am_H → Prop) (Qx : String → am_H → Prop) (q :
  (am_K h a0 = 11 ∧ ∃ q1, am_R h 10 9 a0 = some q1 ∧
  ((am_K h q1 = 21 ∨ am_K h q1 = 31) ∧ vp_in a1 (am_N h q1) ∧
  (((am_A h q1 (a1).toNatClampNeg) ≤ (Int32.ofNat 0) →
   (((Int32.ofNat 0) = (Int32.ofNat 0) ∨ (Int32.ofNat 0) = (Int32.ofNat 1)) ∧ Q (Int32.ofNat 0) h)) ∧
  (¬ ((am_A h q1 (a1).toNatClampNeg) ≤ (Int32.ofNat 0)) →
   (am_K h a0 = 11 ∧ ∃ q2, am_R h 10 17 a0 = some q2 ∧
   (am_K h a0 = 11 ∧ ∃ q3, am_R h 10 11 a0 = some q3 ∧
   ((am_K h q3 = 21 ∨ am_K h q3 = 31) ∧ vp_in a1 (am_N h q3) ∧
   ((am_K h q2 = 23 ∨ am_K h q2 = 24) ∧ vp_in (am_A h q3 (a1).toNatClampNeg) (am_N h q2) ∧
   (((am_A h q2 ((am_A h q3 (a1).toNatClampNeg)).toNatClampNeg) = (Int32.ofNat 0) →
    (((Int32.ofNat 0) = (Int32.ofNat 0) ∨ (Int32.ofNat 0) = (Int32.ofNat 1)) ∧ Q (Int32.ofNat 0) h)) ∧
   (¬ ((am_A h q2 ((am_A h q3 (a1).toNatClampNeg)).toNatClampNeg) = (Int32.ofNat 0)) →
    (((Int32.ofNat 1) = (Int32.ofNat 0) ∨ (Int32.ofNat 1) = (Int32.ofNat 1)) ∧ Q (Int32.ofNat 1) h)))))))))))) :
  am_Ev tt 143 0 [some (.ref a0), some (.int a1)] [] h (am_pI Q Qx) := am_vc 18 [] q

/-! 144 yX10_number -/
theorem vc_144_0 (tt : Nat → Nat) (a0 : Nat) (a1 : Int32) (a2 : Int32) (h : am_H) (Q : Int64 → am_H → Prop) (Qx : String → am_H → Prop) (q :
  (am_K h a0 = 11 ∧
  (am_K h a0 = 11 ∧ ∃ (Q2 : Int32 → am_H → Prop) (X2 : String → am_H → Prop), am_Ct tt 134 [.ref a0, .int a1] (am_sI h 10 0 a0 (Int32.ofNat 0)) (am_pI Q2 X2) ∧ (∀ x3 h1, Q2 x3 h1 →
   ((x3 = (Int32.ofNat 0) →
    am_Ev tt 144 25 [none, none, none] [] h1 (am_pL Q Qx)) ∧
   (¬ (x3 = (Int32.ofNat 0)) →
    (∃ (Q5 : Int32 → am_H → Prop) (X5 : String → am_H → Prop), am_Ct tt 130 [.long (a2).toInt64, .long (Int64.ofNat 0), .long (Int64.ofNat 2)] h1 (am_pI Q5 X5) ∧ (∀ x6 h4, Q5 x6 h4 →
     ((¬ x6 = (Int32.ofNat 0) →
      ((¬ a2 = (Int32.ofNat 0) →
       ((¬ a2 = (Int32.ofNat 1) →
        (am_K h4 a0 = 11 ∧ ∃ (Q8 : Int32 → am_H → Prop) (X8 : String → am_H → Prop), am_Ct tt 143 [.ref a0, .int a1] h4 (am_pI Q8 X8) ∧ (∀ x9 h7, Q8 x9 h7 →
         ((x9 = (Int32.ofNat 0) →
          (am_K h7 a0 = 11 ∧ ∃ q10, am_R h7 10 10 a0 = some q10 ∧
          (am_K h7 a0 = 11 ∧ ∃ q11, am_R h7 10 9 a0 = some q11 ∧
          ((am_K h7 q11 = 21 ∨ am_K h7 q11 = 31) ∧ vp_in a1 (am_N h7 q11) ∧
          (∃ (Q13 : Int32 → am_H → Prop) (X13 : String → am_H → Prop), am_Ct tt 131 [.ref q10, .int ((Int32.ofNat 2400) * a1), .int (am_A h7 q11 (a1).toNatClampNeg)] h7 (am_pI Q13 X13) ∧ (∀ x14 h12, Q13 x14 h12 →
           Q ((x14).toInt64 &&& (Int64.ofNat 4294967295)) h12) ∧ (∀ E15 h12, X13 E15 h12 → Qx E15 h12)))))) ∧
         (¬ (x9 = (Int32.ofNat 0)) →
          Q (Int64.ofNat 0) h7))) ∧ (∀ E16 h7, X8 E16 h7 → Qx E16 h7))) ∧
       (¬ (¬ a2 = (Int32.ofNat 1)) →
        (am_K h4 a0 = 11 ∧ ∃ q17, am_R h4 10 8 a0 = some q17 ∧
        ((am_K h4 q17 = 21 ∨ am_K h4 q17 = 31) ∧ vp_in a1 (am_N h4 q17) ∧
        Q ((am_A h4 q17 (a1).toNatClampNeg)).toInt64 h4))))) ∧
      (¬ (¬ a2 = (Int32.ofNat 0)) →
       (am_K h4 a0 = 11 ∧ ∃ q18, am_R h4 10 6 a0 = some q18 ∧
       (am_K h4 q18 = 22 ∧ vp_in a1 (am_N h4 q18) ∧
       Q (am_B h4 q18 (a1).toNatClampNeg) h4))))) ∧
     (¬ (¬ x6 = (Int32.ofNat 0)) →
      am_Ev tt 144 25 [none, none, none] [] h4 (am_pL Q Qx)))) ∧ (∀ E19 h4, X5 E19 h4 → Qx E19 h4))))) ∧ (∀ E20 h1, X2 E20 h1 → Qx E20 h1)))) :
  am_Ev tt 144 0 [some (.ref a0), some (.int a1), some (.int a2)] [] h (am_pL Q Qx) := am_vc 38 [(25, [false, false, false])] q
theorem vc_144_25 (tt : Nat → Nat)  (h : am_H) (Q : Int64 → am_H → Prop) (Qx : String → am_H → Prop) (q :
  Q (Int64.ofNat 0) h) :
  am_Ev tt 144 25 [none, none, none] [] h (am_pL Q Qx) := am_vc 4 [(25, [false, false, false])] q

/-! 145 yX10_at -/
theorem vc_145_0 (tt : Nat → Nat) (a0 : Nat) (a1 : Int32) (a2 : Int32) (a3 : Int32) (h : am_H) (Q : Int32 → am_H → Prop) (Qx : String → am_H → Prop) (q :
  (am_K h a0 = 11 ∧
  (am_K h a0 = 11 ∧ ∃ (Q2 : Int32 → am_H → Prop) (X2 : String → am_H → Prop), am_Ct tt 134 [.ref a0, .int a1] (am_sI h 10 0 a0 (Int32.ofNat 0)) (am_pI Q2 X2) ∧ (∀ x3 h1, Q2 x3 h1 →
   ((x3 = (Int32.ofNat 0) →
    am_Ev tt 145 23 [none, none, none, none] [] h1 (am_pI Q Qx)) ∧
   (¬ (x3 = (Int32.ofNat 0)) →
    (∃ (Q5 : Int32 → am_H → Prop) (X5 : String → am_H → Prop), am_Ct tt 130 [.long (a2).toInt64, .long (Int64.ofNat 0), .long (Int64.ofNat 1)] h1 (am_pI Q5 X5) ∧ (∀ x6 h4, Q5 x6 h4 →
     ((¬ x6 = (Int32.ofNat 0) →
      ((¬ a2 = (Int32.ofNat 0) →
       (am_K h4 a0 = 11 ∧ ∃ q7, am_R h4 10 9 a0 = some q7 ∧
       ((am_K h4 q7 = 21 ∨ am_K h4 q7 = 31) ∧ vp_in a1 (am_N h4 q7) ∧
       (∃ (Q9 : Int32 → am_H → Prop) (X9 : String → am_H → Prop), am_Ct tt 130 [.long (a3).toInt64, .long (Int64.ofNat 0), .long (((am_A h4 q7 (a1).toNatClampNeg) - (Int32.ofNat 1))).toInt64] h4 (am_pI Q9 X9) ∧ (∀ x10 h8, Q9 x10 h8 →
        ((x10 = (Int32.ofNat 0) →
         Q (-1 : Int32) h8) ∧
        (¬ (x10 = (Int32.ofNat 0)) →
         (am_K h8 a0 = 11 ∧ ∃ (Q12 : Int32 → am_H → Prop) (X12 : String → am_H → Prop), am_Ct tt 143 [.ref a0, .int a1] h8 (am_pI Q12 X12) ∧ (∀ x13 h11, Q12 x13 h11 →
          ((¬ x13 = (Int32.ofNat 0) →
           Q (-1 : Int32) h11) ∧
          (¬ (¬ x13 = (Int32.ofNat 0)) →
           (am_K h11 a0 = 11 ∧ ∃ q14, am_R h11 10 10 a0 = some q14 ∧
           ((am_K h11 q14 = 23 ∨ am_K h11 q14 = 24) ∧ vp_in (((Int32.ofNat 2400) * a1) + a3) (am_N h11 q14) ∧
           Q ((am_A h11 q14 ((((Int32.ofNat 2400) * a1) + a3)).toNatClampNeg) &&& (Int32.ofNat 255)) h11))))) ∧ (∀ E15 h11, X12 E15 h11 → Qx E15 h11))))) ∧ (∀ E16 h8, X9 E16 h8 → Qx E16 h8))))) ∧
      (¬ (¬ a2 = (Int32.ofNat 0)) →
       (am_K h4 a0 = 11 ∧ ∃ q17, am_R h4 10 3 a0 = some q17 ∧
       ((am_K h4 q17 = 21 ∨ am_K h4 q17 = 31) ∧ vp_in a1 (am_N h4 q17) ∧
       (∃ (Q19 : Int32 → am_H → Prop) (X19 : String → am_H → Prop), am_Ct tt 130 [.long (a3).toInt64, .long (Int64.ofNat 0), .long (((am_A h4 q17 (a1).toNatClampNeg) - (Int32.ofNat 1))).toInt64] h4 (am_pI Q19 X19) ∧ (∀ x20 h18, Q19 x20 h18 →
        ((x20 = (Int32.ofNat 0) →
         Q (-1 : Int32) h18) ∧
        (¬ (x20 = (Int32.ofNat 0)) →
         (am_K h18 a0 = 11 ∧ ∃ q21, am_R h18 10 4 a0 = some q21 ∧
         ((am_K h18 q21 = 21 ∨ am_K h18 q21 = 31) ∧ vp_in (((Int32.ofNat 20) * a1) + a3) (am_N h18 q21) ∧
         Q (am_A h18 q21 ((((Int32.ofNat 20) * a1) + a3)).toNatClampNeg) h18))))) ∧ (∀ E22 h18, X19 E22 h18 → Qx E22 h18))))))) ∧
     (¬ (¬ x6 = (Int32.ofNat 0)) →
      am_Ev tt 145 23 [none, none, none, none] [] h4 (am_pI Q Qx)))) ∧ (∀ E23 h4, X5 E23 h4 → Qx E23 h4))))) ∧ (∀ E24 h1, X2 E24 h1 → Qx E24 h1)))) :
  am_Ev tt 145 0 [some (.ref a0), some (.int a1), some (.int a2), some (.int a3)] [] h (am_pI Q Qx) := am_vc 45 [(23, [false, false, false, false])] q
theorem vc_145_23 (tt : Nat → Nat)  (h : am_H) (Q : Int32 → am_H → Prop) (Qx : String → am_H → Prop) (q :
  Q (-2 : Int32) h) :
  am_Ev tt 145 23 [none, none, none, none] [] h (am_pI Q Qx) := am_vc 4 [(23, [false, false, false, false])] q

/-! 146 yX10_coderAt -/
theorem vc_146_0 (tt : Nat → Nat) (a0 : Nat) (a1 : Int32) (a2 : Int32) (h : am_H) (Q : Int32 → am_H → Prop) (Qx : String → am_H → Prop) (q :
  (am_K h a0 = 11 ∧
  (∃ (Q2 : Int32 → am_H → Prop) (X2 : String → am_H → Prop), am_Ct tt 130 [.long (a1).toInt64, .long (Int64.ofNat 0), .long (Int64.ofNat 5)] (am_sI h 10 0 a0 (Int32.ofNat 0)) (am_pI Q2 X2) ∧ (∀ x3 h1, Q2 x3 h1 →
   ((¬ x3 = (Int32.ofNat 0) →
    (am_K h1 a0 = 11 ∧ ∃ q4, am_R h1 10 17 a0 = some q4 ∧
    ((am_K h1 q4 = 23 ∨ am_K h1 q4 = 24) ∧ vp_in a1 (am_N h1 q4) ∧
    (((am_A h1 q4 (a1).toNatClampNeg) = (Int32.ofNat 0) →
     ((¬ a2 = (-1 : Int32) →
      (am_K h1 a0 = 11 ∧ ∃ q5, am_R h1 10 14 a0 = some q5 ∧
      ((am_K h1 q5 = 21 ∨ am_K h1 q5 = 31) ∧ vp_in a1 (am_N h1 q5) ∧
      (∃ (Q7 : Int32 → am_H → Prop) (X7 : String → am_H → Prop), am_Ct tt 130 [.long (a2).toInt64, .long (Int64.ofNat 0), .long (((am_A h1 q5 (a1).toNatClampNeg) - (Int32.ofNat 1))).toInt64] h1 (am_pI Q7 X7) ∧ (∀ x8 h6, Q7 x8 h6 →
       ((x8 = (Int32.ofNat 0) →
        Q (-1 : Int32) h6) ∧
       (¬ (x8 = (Int32.ofNat 0)) →
        (am_K h6 a0 = 11 ∧ ∃ q9, am_R h6 10 15 a0 = some q9 ∧
        ((am_K h6 q9 = 21 ∨ am_K h6 q9 = 31) ∧ vp_in (((Int32.ofNat 3) * a1) + a2) (am_N h6 q9) ∧
        (am_K h6 a0 = 11 ∧ ∃ q10, am_R h6 10 16 a0 = some q10 ∧
        ((am_K h6 q10 = 21 ∨ am_K h6 q10 = 31) ∧ vp_in (((Int32.ofNat 3) * a1) + a2) (am_N h6 q10) ∧
        Q ((am_A h6 q9 ((((Int32.ofNat 3) * a1) + a2)).toNatClampNeg) + ((Int32.ofNat 4) * (am_A h6 q10 ((((Int32.ofNat 3) * a1) + a2)).toNatClampNeg))) h6))))))) ∧ (∀ E11 h6, X7 E11 h6 → Qx E11 h6))))) ∧
     (¬ (¬ a2 = (-1 : Int32)) →
      (am_K h1 a0 = 11 ∧ ∃ q12, am_R h1 10 14 a0 = some q12 ∧
      ((am_K h1 q12 = 21 ∨ am_K h1 q12 = 31) ∧ vp_in a1 (am_N h1 q12) ∧
      Q (am_A h1 q12 (a1).toNatClampNeg) h1))))) ∧
    (¬ ((am_A h1 q4 (a1).toNatClampNeg) = (Int32.ofNat 0)) →
     Q (-3 : Int32) h1))))) ∧
   (¬ (¬ x3 = (Int32.ofNat 0)) →
    Q (-2 : Int32) h1))) ∧ (∀ E13 h1, X2 E13 h1 → Qx E13 h1)))) :
  am_Ev tt 146 0 [some (.ref a0), some (.int a1), some (.int a2)] [] h (am_pI Q Qx) := am_vc 52 [] q

section ME
variable {tt : Nat → Nat} {P : Nat → Prop} {h h' h'' : am_H} {m : Nat} {ad : Nat → Nat} {S : sS}
theorem ckr_sh {f : Nat → Int32} {a : Nat} : ∀ {n p : Nat} {c : Int32}, ckr f (a + p) n c = ckr (sl f a) p n c
  | 0, p, c => rfl
  | n + 1, p, c => by
    unfold ckr
    rw [Nat.add_assoc, ckr_sh]
    rfl
theorem ck_sh {f : Nat → Int32} {a n : Nat} : ck f a n = ck (sl f a) 0 n := by
  unfold ck
  rw [← ckr_sh, Nat.add_zero]
theorem ct_mlost (q : RM P h m ad S) (wf : wfS S) {i : Nat} (hi : i < a_n S.1) : am_Ct tt 143 [.ref m, .int (Int32.ofNat i)] h (am_pI (fun r h' => h' = h ∧ r = b01 (lostB S i)) no_x) := by
  have s := q.1
  have n24 := wf.1.1
  have i24 : i < 24 := by omega
  obtain ⟨y1, y2, y3, y4, y5, y6, y7, y8, y9, y10, y11, y12⟩ := q.2.2.1 i hi
  obtain ⟨g1, g2, g3, g4⟩ := wf.1.2.1 i hi
  have yb := (q.2.2.2.1 _ g4).1
  refine vc_143_0 tt _ _ h _ _ ?_
  simp (disch := omega) only [s.1, md_f s, y4, y5, yb, g4, b01_nz, i24, am_hs, qi_lt, qi_le, qi_eq, qi_nn, qi_in, qi_add, qi_l, ql_i, ql_lt, ql_le, ql_eq, ql_add, qc_lt, qc_eq, qc_ge, qc_gt, qc_le, true_and, and_true, and_self, true_or, or_true, false_or, or_false, false_and, and_false, not_true_eq_false, not_false_eq_true, Classical.not_not, true_implies, false_implies, implies_true, exists_eq_left, exists_eq_left', Option.some.injEq, reduceIte, Nat.reduceEqDiff, Nat.reduceLT, Nat.reduceLeDiff, Nat.reduceAdd, Nat.reduceSub, Nat.reduceMul, eq_self, ne_eq, and_imp, forall_const, reduceCtorEq, am_w, List.map_cons, List.map_nil, List.sum_cons, List.sum_nil, Value.category, Nat.zero_le, Nat.le_refl]
  have lE : lostB S i = (decide (0 < e_sz (a_E S.1 i)) && !b_kn (a_B S.1 (e_hm (a_E S.1 i)))) := rfl
  rw [lE]
  refine ⟨fun w => ?_, fun w => ⟨fun w2 => ?_, fun w2 => ?_⟩⟩
  · rw [decide_eq_false (by omega)]; rfl
  · rw [w2]; simp [b01]
  · rw [decide_eq_true (by omega)]
    have : b_kn (a_B S.1 (e_hm (a_E S.1 i))) = false := by simpa using w2
    rw [this]; rfl
theorem ct_mof (q : RM P h m ad S) (wf : wfS S) {x y : Int32} : am_Ct tt 142 [.ref m, .int x, .int y] h (am_pI (fun r h' => r = f_of S x y ∧ okM P h m ad S h') no_x) := by
  have q0 := q.th (Int32.ofNat 0)
  have s := q.1
  have n24 := wf.1.1
  refine vc_142_0 tt _ _ _ h _ _ ?_
  refine ⟨s.1, s.1, _, _, ct_isEntry (n := a_n S.1) s.1 q0.1.2.1 (by omega), fun r k e => ?_, fun _ _ z => z⟩
  obtain ⟨ek, e⟩ := e
  subst k e
  generalize am_sI h 10 0 m (Int32.ofNat 0) = h1 at q0 ⊢
  have q1 := q0.1
  have s1 := q1.1
  cases ex : ixo (a_n S.1) x with
  | none =>
    have fE : f_of S x y = -2 := by rw [f_of, ex]
    rw [fE]
    exact ⟨fun _ => ⟨rfl, q0⟩, fun w => absurd rfl w⟩
  | some i =>
    obtain ⟨hi, rfl⟩ := ixo_o ex
    obtain ⟨y1, y2, y3, y4, y5, y6, y7, y8, y9, y10, y11, y12⟩ := q1.2.2.1 i hi
    obtain ⟨g1, g2, g3, g4⟩ := wf.1.2.1 i hi
    have i24 : i < 24 := by omega
    have n1z : ¬ b01 true = Int32.ofNat 0 := by decide
    refine ⟨fun w => absurd w n1z, fun _ => ⟨_, _, ct_inN (n := 9) (by omega) (Or.inr ⟨by omega, rfl⟩), fun r k e => ?_, fun _ _ z => z⟩⟩
    obtain ⟨ek, e⟩ := e
    subst k e
    cases ey : ixo 9 y with
    | none =>
      have fE : f_of S (Int32.ofNat i) y = -2 := by rw [f_of, ex, ey]
      rw [fE]
      exact ⟨fun w => absurd rfl w, fun _ => ⟨rfl, q0⟩⟩
    | some b =>
      obtain ⟨hb, rfl⟩ := ixo_o ey
      refine ⟨fun _ => ?_, fun w => absurd n1z w⟩
      have two : ∀ (b : Bool) (r : Int32), r = b01 b → (b = false → Int32.ofNat 0 = r ∧ okM P h m ad S h1) ∧ (¬ b = false → Int32.ofNat 1 = r ∧ okM P h m ad S h1) := by
        intro b r e
        cases b
        · exact ⟨fun _ => ⟨e.symm, q0⟩, fun w => absurd rfl w⟩
        · exact ⟨fun w => (by cases w), fun _ => ⟨e.symm, q0⟩⟩
      have c9 : b = 0 ∨ b = 1 ∨ b = 2 ∨ b = 3 ∨ b = 4 ∨ b = 5 ∨ b = 6 ∨ b = 7 ∨ b = 8 := by omega
      simp (disch := omega) only [qi_ti, s1.1, md_f s1, i24, y1, y2, y4, y5, y6, y7, y9, y11, b01_z, am_hs, qi_lt, qi_le, qi_eq, qi_nn, qi_in, qi_add, qi_l, ql_i, ql_lt, ql_le, ql_eq, ql_add, qc_lt, qc_eq, qc_ge, qc_gt, qc_le, true_and, and_true, and_self, true_or, or_true, false_or, or_false, false_and, and_false, not_true_eq_false, not_false_eq_true, Classical.not_not, true_implies, false_implies, implies_true, exists_eq_left, exists_eq_left', Option.some.injEq, reduceIte, Nat.reduceEqDiff, Nat.reduceLT, Nat.reduceLeDiff, Nat.reduceAdd, Nat.reduceSub, Nat.reduceMul, eq_self, ne_eq, and_imp, forall_const, reduceCtorEq, am_w, List.map_cons, List.map_nil, List.sum_cons, List.sum_nil, Value.category, Nat.zero_le, Nat.le_refl]
      rcases c9 with rfl | rfl | rfl | rfl | rfl | rfl | rfl | rfl | rfl
      all_goals
        rw [f_of, ex, ey]
      · exact ⟨by omega, fun _ => ⟨rfl, q0⟩, by omega, by omega, by omega, by omega, by omega, by omega, by omega⟩
      · exact ⟨by omega, by omega, fun _ => ⟨rfl, q0⟩, by omega, by omega, by omega, by omega, by omega, by omega⟩
      · exact ⟨by omega, by omega, by omega, fun _ => ⟨rfl, q0⟩, by omega, by omega, by omega, by omega, by omega⟩
      · exact ⟨by omega, by omega, by omega, by omega, fun _ => ⟨rfl, q0⟩, by omega, by omega, by omega, by omega⟩
      · exact ⟨by omega, by omega, by omega, by omega, by omega, fun _ => two _ _ rfl, by omega, by omega, by omega⟩
      · exact ⟨by omega, by omega, by omega, by omega, by omega, by omega, fun _ => two _ _ rfl, by omega, by omega⟩
      · exact ⟨by omega, by omega, by omega, by omega, by omega, by omega, by omega, fun _ => two _ _ rfl, by omega⟩
      · exact ⟨by omega, by omega, by omega, by omega, by omega, by omega, by omega, by omega, fun _ => two _ _ rfl⟩
      · refine ⟨fun _ => ⟨_, _, ct_mlost q1 wf hi, fun r k e => ?_, fun _ _ z => z⟩, by omega, by omega, by omega, by omega, by omega, by omega, by omega, by omega⟩
        obtain ⟨ek, e⟩ := e
        subst k e
        simp only [b01_z]
        exact two _ _ rfl
theorem ct_mnumber (q : RM P h m ad S) (wf : wfS S) {x y : Int32} : am_Ct tt 144 [.ref m, .int x, .int y] h (am_pL (fun r h' => r = f_number S x y ∧ okM P h m ad S h') no_x) := by
  have q0 := q.th (Int32.ofNat 0)
  have s := q.1
  have n24 := wf.1.1
  refine vc_144_0 tt _ _ _ h _ _ ?_
  refine ⟨s.1, s.1, _, _, ct_isEntry (n := a_n S.1) s.1 q0.1.2.1 (by omega), fun r k e => ?_, fun _ _ z => z⟩
  obtain ⟨ek, e⟩ := e
  subst k e
  generalize am_sI h 10 0 m (Int32.ofNat 0) = h1 at q0 ⊢
  have q1 := q0.1
  have s1 := q1.1
  cases ex : ixo (a_n S.1) x with
  | none =>
    have fE : f_number S x y = Int64.ofNat 0 := by rw [f_number, ex]
    rw [fE]
    exact ⟨fun _ => vc_144_25 tt _ _ _ ⟨rfl, q0⟩, fun w => absurd rfl w⟩
  | some i =>
    obtain ⟨hi, rfl⟩ := ixo_o ex
    obtain ⟨y1, y2, y3, y4, y5, y6, y7, y8, y9, y10, y11, y12⟩ := q1.2.2.1 i hi
    obtain ⟨g1, g2, g3, g4⟩ := wf.1.2.1 i hi
    have i24 : i < 24 := by omega
    have n1z : ¬ b01 true = Int32.ofNat 0 := by decide
    refine ⟨fun w => absurd w n1z, fun _ => ⟨_, _, ct_inN (n := 3) (by omega) (Or.inr ⟨by omega, rfl⟩), fun r k e => ?_, fun _ _ z => z⟩⟩
    obtain ⟨ek, e⟩ := e
    subst k e
    cases ey : ixo 3 y with
    | none =>
      have fE : f_number S (Int32.ofNat i) y = Int64.ofNat 0 := by rw [f_number, ex, ey]
      rw [fE]
      exact ⟨fun w => absurd rfl w, fun _ => vc_144_25 tt _ _ _ ⟨rfl, q0⟩⟩
    | some b =>
      obtain ⟨hb, rfl⟩ := ixo_o ey
      refine ⟨fun _ => ?_, fun w => absurd n1z w⟩
      have c3 : b = 0 ∨ b = 1 ∨ b = 2 := by omega
      rcases c3 with rfl | rfl | rfl
      · have fE : f_number S (Int32.ofNat i) (Int32.ofNat 0) = (e_tm (a_E S.1 i)).getD (Int64.ofNat 0) := by rw [f_number, ex, ey]; try rfl
        rw [fE]
        simp (disch := omega) only [s1.1, md_f s1, i24, y8, am_hs, qi_lt, qi_le, qi_eq, qi_nn, qi_in, qi_add, qi_l, ql_i, ql_lt, ql_le, ql_eq, ql_add, qc_lt, qc_eq, qc_ge, qc_gt, qc_le, true_and, and_true, and_self, true_or, or_true, false_or, or_false, false_and, and_false, not_true_eq_false, not_false_eq_true, Classical.not_not, true_implies, false_implies, implies_true, exists_eq_left, exists_eq_left', Option.some.injEq, reduceIte, Nat.reduceEqDiff, Nat.reduceLT, Nat.reduceLeDiff, Nat.reduceAdd, Nat.reduceSub, Nat.reduceMul, eq_self, ne_eq, and_imp, forall_const, reduceCtorEq, am_w, List.map_cons, List.map_nil, List.sum_cons, List.sum_nil, Value.category, Nat.zero_le, Nat.le_refl]
        exact q0
      · have fE : f_number S (Int32.ofNat i) (Int32.ofNat 1) = ((e_av (a_E S.1 i)).getD (Int32.ofNat 0)).toInt64 := by rw [f_number, ex, ey]; try rfl
        rw [fE]
        simp (disch := omega) only [s1.1, md_f s1, i24, y10, am_hs, qi_lt, qi_le, qi_eq, qi_nn, qi_in, qi_add, qi_l, ql_i, ql_lt, ql_le, ql_eq, ql_add, qc_lt, qc_eq, qc_ge, qc_gt, qc_le, true_and, and_true, and_self, true_or, or_true, false_or, or_false, false_and, and_false, not_true_eq_false, not_false_eq_true, Classical.not_not, true_implies, false_implies, implies_true, exists_eq_left, exists_eq_left', Option.some.injEq, reduceIte, Nat.reduceEqDiff, Nat.reduceLT, Nat.reduceLeDiff, Nat.reduceAdd, Nat.reduceSub, Nat.reduceMul, eq_self, ne_eq, and_imp, forall_const, reduceCtorEq, am_w, List.map_cons, List.map_nil, List.sum_cons, List.sum_nil, Value.category, Nat.zero_le, Nat.le_refl]
        exact q0
      · have fE : f_number S (Int32.ofNat i) (Int32.ofNat 2) = if lostB S i = true then Int64.ofNat 0 else (ck (e_by (a_E S.1 i)) 0 (e_sz (a_E S.1 i))).toInt64 &&& Int64.ofNat 4294967295 := by rw [f_number, ex, ey]; try rfl
        rw [fE]
        simp (disch := omega) only [s1.1, am_hs, qi_lt, qi_le, qi_eq, qi_nn, qi_in, qi_add, qi_l, ql_i, ql_lt, ql_le, ql_eq, ql_add, qc_lt, qc_eq, qc_ge, qc_gt, qc_le, true_and, and_true, and_self, true_or, or_true, false_or, or_false, false_and, and_false, not_true_eq_false, not_false_eq_true, Classical.not_not, true_implies, false_implies, implies_true, exists_eq_left, exists_eq_left', Option.some.injEq, reduceIte, Nat.reduceEqDiff, Nat.reduceLT, Nat.reduceLeDiff, Nat.reduceAdd, Nat.reduceSub, Nat.reduceMul, eq_self, ne_eq, and_imp, forall_const, reduceCtorEq, am_w, List.map_cons, List.map_nil, List.sum_cons, List.sum_nil, Value.category, Nat.zero_le, Nat.le_refl]
        refine ⟨_, _, ct_mlost q1 wf hi, fun r k e => ?_, fun _ _ z => z⟩
        obtain ⟨ek, e⟩ := e
        subst k e
        simp (disch := omega) only [s1.1, md_f s1, i24, y4, b01_z, qi_mul, am_hs, qi_lt, qi_le, qi_eq, qi_nn, qi_in, qi_add, qi_l, ql_i, ql_lt, ql_le, ql_eq, ql_add, qc_lt, qc_eq, qc_ge, qc_gt, qc_le, true_and, and_true, and_self, true_or, or_true, false_or, or_false, false_and, and_false, not_true_eq_false, not_false_eq_true, Classical.not_not, true_implies, false_implies, implies_true, exists_eq_left, exists_eq_left', Option.some.injEq, reduceIte, Nat.reduceEqDiff, Nat.reduceLT, Nat.reduceLeDiff, Nat.reduceAdd, Nat.reduceSub, Nat.reduceMul, eq_self, ne_eq, and_imp, forall_const, reduceCtorEq, am_w, List.map_cons, List.map_nil, List.sum_cons, List.sum_nil, Value.category, Nat.zero_le, Nat.le_refl]
        refine ⟨fun w => ?_, fun w => by rw [if_pos (by simpa using w)]; exact ⟨rfl, q0⟩⟩
        have F := md_f s1
        refine ⟨_, _, ct_check (md_f s1).2.2.2.2.2.2.2.2.1.2.1 (by rw [(md_f s1).2.2.2.2.2.2.2.2.1.2.2]; omega) (by rw [(md_f s1).2.2.2.2.2.2.2.2.1.2.2]; omega), fun r k e => ?_, fun _ _ z => z⟩
        obtain ⟨ek, e⟩ := e
        subst k e
        rw [if_neg (by rw [w]; decide), ck_sh, ck_fr (g := e_by (a_E S.1 i))]
        · exact ⟨rfl, q0⟩
        · intro j _ hj
          refine y12 ?_ j (by omega)
          have lE : lostB S i = (decide (0 < e_sz (a_E S.1 i)) && !b_kn (a_B S.1 (e_hm (a_E S.1 i)))) := rfl
          rw [lE] at w
          show b_kn _ = true
          cases hb : b_kn (a_B S.1 (e_hm (a_E S.1 i))) with
          | true => rfl
          | false => rw [hb] at w; simp at w; omega
theorem ct_mat (q : RM P h m ad S) (wf : wfS S) {x y z : Int32} : am_Ct tt 145 [.ref m, .int x, .int y, .int z] h (am_pI (fun r h' => r = f_at S x y z ∧ okM P h m ad S h') no_x) := by
  have q0 := q.th (Int32.ofNat 0)
  have s := q.1
  have n24 := wf.1.1
  refine vc_145_0 tt _ _ _ _ h _ _ ?_
  refine ⟨s.1, s.1, _, _, ct_isEntry (n := a_n S.1) s.1 q0.1.2.1 (by omega), fun r k e => ?_, fun _ _ z => z⟩
  obtain ⟨ek, e⟩ := e
  subst k e
  generalize am_sI h 10 0 m (Int32.ofNat 0) = h1 at q0 ⊢
  have q1 := q0.1
  have s1 := q1.1
  cases ex : ixo (a_n S.1) x with
  | none =>
    have fE : f_at S x y z = -2 := by rw [f_at, ex]
    rw [fE]
    exact ⟨fun _ => vc_145_23 tt _ _ _ ⟨rfl, q0⟩, fun w => absurd rfl w⟩
  | some i =>
    obtain ⟨hi, rfl⟩ := ixo_o ex
    obtain ⟨y1, y2, y3, y4, y5, y6, y7, y8, y9, y10, y11, y12⟩ := q1.2.2.1 i hi
    obtain ⟨g1, g2, g3, g4⟩ := wf.1.2.1 i hi
    have i24 : i < 24 := by omega
    have n1z : ¬ b01 true = Int32.ofNat 0 := by decide
    refine ⟨fun w => absurd w n1z, fun _ => ⟨_, _, ct_inN (n := 2) (by omega) (Or.inr ⟨by omega, rfl⟩), fun r k e => ?_, fun _ _ z => z⟩⟩
    obtain ⟨ek, e⟩ := e
    subst k e
    cases ey : ixo 2 y with
    | none =>
      have fE : f_at S (Int32.ofNat i) y z = -2 := by rw [f_at, ex, ey]
      rw [fE]
      exact ⟨fun w => absurd rfl w, fun _ => vc_145_23 tt _ _ _ ⟨rfl, q0⟩⟩
    | some b =>
      obtain ⟨hb, rfl⟩ := ixo_o ey
      refine ⟨fun _ => ?_, fun w => absurd n1z w⟩
      have c2 : b = 0 ∨ b = 1 := by omega
      rcases c2 with rfl | rfl
      · have fE : f_at S (Int32.ofNat i) (Int32.ofNat 0) z = (match ixo (e_un (a_E S.1 i)) z with | none => -1 | some j => e_nm (a_E S.1 i) j) := by rw [f_at, ex, ey]; try rfl
        rw [fE]
        simp (disch := omega) only [s1.1, md_f s1, i24, y2, am_hs, qi_lt, qi_le, qi_eq, qi_nn, qi_in, qi_add, qi_l, ql_i, ql_lt, ql_le, ql_eq, ql_add, qc_lt, qc_eq, qc_ge, qc_gt, qc_le, true_and, and_true, and_self, true_or, or_true, false_or, or_false, false_and, and_false, not_true_eq_false, not_false_eq_true, Classical.not_not, true_implies, false_implies, implies_true, exists_eq_left, exists_eq_left', Option.some.injEq, reduceIte, Nat.reduceEqDiff, Nat.reduceLT, Nat.reduceLeDiff, Nat.reduceAdd, Nat.reduceSub, Nat.reduceMul, eq_self, ne_eq, and_imp, forall_const, reduceCtorEq, am_w, List.map_cons, List.map_nil, List.sum_cons, List.sum_nil, Value.category, Nat.zero_le, Nat.le_refl]
        refine ⟨_, _, ct_inN (n := e_un (a_E S.1 i)) (by omega) (Or.inl rfl), fun r k e => ?_, fun _ _ z => z⟩
        obtain ⟨ek, e⟩ := e
        subst k e
        cases ez : ixo (e_un (a_E S.1 i)) z with
        | none => exact ⟨fun _ => ⟨rfl, q0⟩, fun w => absurd rfl w⟩
        | some j =>
          obtain ⟨hj, rfl⟩ := ixo_o ez
          refine ⟨fun w => absurd w n1z, fun _ => ?_⟩
          have l1 : 20 * i + j < 480 := by omega
          simp (disch := omega) only [s1.1, md_f s1, l1, qi_mul, am_hs, qi_lt, qi_le, qi_eq, qi_nn, qi_in, qi_add, qi_l, ql_i, ql_lt, ql_le, ql_eq, ql_add, qc_lt, qc_eq, qc_ge, qc_gt, qc_le, true_and, and_true, and_self, true_or, or_true, false_or, or_false, false_and, and_false, not_true_eq_false, not_false_eq_true, Classical.not_not, true_implies, false_implies, implies_true, exists_eq_left, exists_eq_left', Option.some.injEq, reduceIte, Nat.reduceEqDiff, Nat.reduceLT, Nat.reduceLeDiff, Nat.reduceAdd, Nat.reduceSub, Nat.reduceMul, eq_self, ne_eq, and_imp, forall_const, reduceCtorEq, am_w, List.map_cons, List.map_nil, List.sum_cons, List.sum_nil, Value.category, Nat.zero_le, Nat.le_refl]
          exact ⟨y3 j hj, q0⟩
      · have fE : f_at S (Int32.ofNat i) (Int32.ofNat 1) z = if lostB S i = true then -1 else (match ixo (e_sz (a_E S.1 i)) z with | none => -1 | some j => e_by (a_E S.1 i) j &&& Int32.ofNat 255) := by rw [f_at, ex, ey]; try rfl
        rw [fE]
        simp (disch := omega) only [s1.1, md_f s1, i24, y4, am_hs, qi_lt, qi_le, qi_eq, qi_nn, qi_in, qi_add, qi_l, ql_i, ql_lt, ql_le, ql_eq, ql_add, qc_lt, qc_eq, qc_ge, qc_gt, qc_le, true_and, and_true, and_self, true_or, or_true, false_or, or_false, false_and, and_false, not_true_eq_false, not_false_eq_true, Classical.not_not, true_implies, false_implies, implies_true, exists_eq_left, exists_eq_left', Option.some.injEq, reduceIte, Nat.reduceEqDiff, Nat.reduceLT, Nat.reduceLeDiff, Nat.reduceAdd, Nat.reduceSub, Nat.reduceMul, eq_self, ne_eq, and_imp, forall_const, reduceCtorEq, am_w, List.map_cons, List.map_nil, List.sum_cons, List.sum_nil, Value.category, Nat.zero_le, Nat.le_refl]
        refine ⟨_, _, ct_inN (n := e_sz (a_E S.1 i)) (by omega) (Or.inl rfl), fun r k e => ?_, fun _ _ z => z⟩
        obtain ⟨ek, e⟩ := e
        subst k e
        cases ez : ixo (e_sz (a_E S.1 i)) z with
        | none =>
          refine ⟨fun _ => ?_, fun w => absurd rfl w⟩
          rw [ite_self]
          exact ⟨rfl, q0⟩
        | some j =>
          obtain ⟨hj, rfl⟩ := ixo_o ez
          refine ⟨fun w => absurd w n1z, fun _ => ⟨s1.1, _, _, ct_mlost q1 wf hi, fun r k e => ?_, fun _ _ z => z⟩⟩
          obtain ⟨ek, e⟩ := e
          subst k e
          have l1 : 2400 * i + j < 57600 := by omega
          simp (disch := omega) only [s1.1, md_f s1, l1, qi_mul, b01_z, am_hs, qi_lt, qi_le, qi_eq, qi_nn, qi_in, qi_add, qi_l, ql_i, ql_lt, ql_le, ql_eq, ql_add, qc_lt, qc_eq, qc_ge, qc_gt, qc_le, true_and, and_true, and_self, true_or, or_true, false_or, or_false, false_and, and_false, not_true_eq_false, not_false_eq_true, Classical.not_not, true_implies, false_implies, implies_true, exists_eq_left, exists_eq_left', Option.some.injEq, reduceIte, Nat.reduceEqDiff, Nat.reduceLT, Nat.reduceLeDiff, Nat.reduceAdd, Nat.reduceSub, Nat.reduceMul, eq_self, ne_eq, and_imp, forall_const, reduceCtorEq, am_w, List.map_cons, List.map_nil, List.sum_cons, List.sum_nil, Value.category, Nat.zero_le, Nat.le_refl]
          refine ⟨fun w => by rw [if_pos (by simpa using w)]; exact ⟨rfl, q0⟩, fun w => ?_⟩
          rw [if_neg (by rw [w]; decide)]
          have kn : a_kn S.1 i = true := by
            have lE : lostB S i = (decide (0 < e_sz (a_E S.1 i)) && !b_kn (a_B S.1 (e_hm (a_E S.1 i)))) := rfl
            rw [lE] at w
            show b_kn _ = true
            cases hb : b_kn (a_B S.1 (e_hm (a_E S.1 i))) with
            | true => rfl
            | false => rw [hb] at w; simp at w; omega
          rw [y12 kn j hj]
          exact ⟨rfl, q0⟩
theorem ct_mcoderAt (q : RM P h m ad S) (wf : wfS S) {x z : Int32} : am_Ct tt 146 [.ref m, .int x, .int z] h (am_pI (fun r h' => r = f_coderAt S x z ∧ okM P h m ad S h') no_x) := by
  have q0 := q.th (Int32.ofNat 0)
  have s := q.1
  refine vc_146_0 tt _ _ _ h _ _ ?_
  refine ⟨s.1, _, _, ct_inN (n := 6) (by omega) (Or.inr ⟨by omega, rfl⟩), fun r k' e => ?_, fun _ _ z => z⟩
  obtain ⟨ek, e⟩ := e
  subst k' e
  generalize am_sI h 10 0 m (Int32.ofNat 0) = h1 at q0 ⊢
  have q1 := q0.1
  have s1 := q1.1
  have n1z : ¬ b01 true = Int32.ofNat 0 := by decide
  cases ex : ixo 6 x with
  | none =>
    have fE : f_coderAt S x z = -2 := by rw [f_coderAt, ex]
    rw [fE]
    exact ⟨fun w => absurd rfl w, fun _ => ⟨rfl, q0⟩⟩
  | some i =>
    obtain ⟨hi, rfl⟩ := ixo_o ex
    obtain ⟨y1, y2, -⟩ := q1.2.2.2.1 i hi
    obtain ⟨w1, -⟩ := wf.1.2.2.1 i hi
    have fE : f_coderAt S (Int32.ofNat i) z = if b_kn (a_B S.1 i) = false then -3 else if z = -1 then Int32.ofNat (b_cn (a_B S.1 i)) else match ixo (b_cn (a_B S.1 i)) z with | none => -1 | some j => b_ck (a_B S.1 i) j + Int32.ofNat 4 * b_cd (a_B S.1 i) j := by rw [f_coderAt, ex]; try rfl
    rw [fE]
    refine ⟨fun _ => ?_, fun w => absurd n1z w⟩
    cases hk : b_kn (a_B S.1 i) with
    | false =>
      have y1' : am_A h1 (ad 17) i = Int32.ofNat 1 := by rw [y1, hk]; rfl
      simp (disch := omega) only [s1.1, md_f s1, y1', hi, am_hs, qi_lt, qi_le, qi_eq, qi_nn, qi_in, qi_add, qi_l, ql_i, ql_lt, ql_le, ql_eq, ql_add, qc_lt, qc_eq, qc_ge, qc_gt, qc_le, true_and, and_true, and_self, true_or, or_true, false_or, or_false, false_and, and_false, not_true_eq_false, not_false_eq_true, Classical.not_not, true_implies, false_implies, implies_true, exists_eq_left, exists_eq_left', Option.some.injEq, reduceIte, Nat.reduceEqDiff, Nat.reduceLT, Nat.reduceLeDiff, Nat.reduceAdd, Nat.reduceSub, Nat.reduceMul, eq_self, ne_eq, and_imp, forall_const, reduceCtorEq, am_w, List.map_cons, List.map_nil, List.sum_cons, List.sum_nil, Value.category, Nat.zero_le, Nat.le_refl]
      exact q0
    | true =>
      have y1' : am_A h1 (ad 17) i = Int32.ofNat 0 := by rw [y1, hk]; rfl
      obtain ⟨z1, z2⟩ := y2 hk
      rw [if_neg (by decide)]
      simp (disch := omega) only [s1.1, md_f s1, y1', z1, hi, am_hs, qi_lt, qi_le, qi_eq, qi_nn, qi_in, qi_add, qi_l, ql_i, ql_lt, ql_le, ql_eq, ql_add, qc_lt, qc_eq, qc_ge, qc_gt, qc_le, true_and, and_true, and_self, true_or, or_true, false_or, or_false, false_and, and_false, not_true_eq_false, not_false_eq_true, Classical.not_not, true_implies, false_implies, implies_true, exists_eq_left, exists_eq_left', Option.some.injEq, reduceIte, Nat.reduceEqDiff, Nat.reduceLT, Nat.reduceLeDiff, Nat.reduceAdd, Nat.reduceSub, Nat.reduceMul, eq_self, ne_eq, and_imp, forall_const, reduceCtorEq, am_w, List.map_cons, List.map_nil, List.sum_cons, List.sum_nil, Value.category, Nat.zero_le, Nat.le_refl]
      refine ⟨fun w => ⟨_, _, ct_inN (n := b_cn (a_B S.1 i)) (by omega) (Or.inl rfl), fun r k e => ?_, fun _ _ z => z⟩, fun w => by rw [if_pos w]; exact ⟨rfl, q0⟩⟩
      rw [if_neg w]
      obtain ⟨ek, e⟩ := e
      subst k e
      cases ez : ixo (b_cn (a_B S.1 i)) z with
      | none => exact ⟨fun _ => ⟨rfl, q0⟩, fun w => absurd rfl w⟩
      | some j =>
        obtain ⟨hj, rfl⟩ := ixo_o ez
        refine ⟨fun w => absurd w n1z, fun _ => ?_⟩
        have l1 : 3 * i + j < 18 := by omega
        simp (disch := omega) only [s1.1, md_f s1, l1, qi_mul, am_hs, qi_lt, qi_le, qi_eq, qi_nn, qi_in, qi_add, qi_l, ql_i, ql_lt, ql_le, ql_eq, ql_add, qc_lt, qc_eq, qc_ge, qc_gt, qc_le, true_and, and_true, and_self, true_or, or_true, false_or, or_false, false_and, and_false, not_true_eq_false, not_false_eq_true, Classical.not_not, true_implies, false_implies, implies_true, exists_eq_left, exists_eq_left', Option.some.injEq, reduceIte, Nat.reduceEqDiff, Nat.reduceLT, Nat.reduceLeDiff, Nat.reduceAdd, Nat.reduceSub, Nat.reduceMul, eq_self, ne_eq, and_imp, forall_const, reduceCtorEq, am_w, List.map_cons, List.map_nil, List.sum_cons, List.sum_nil, Value.category, Nat.zero_le, Nat.le_refl]
        rw [(z2 j hj).1, (z2 j hj).2]
        exact ⟨rfl, q0⟩
end ME
