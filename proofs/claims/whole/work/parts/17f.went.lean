/-! deps: 17e -/
/-! ===== the class's writer: flags, names, values ===== -/
/-! 99 yX8_addRow -/
theorem vc_99_0 (tt : Nat → Nat) (a0 : Nat) (a1 : Int32) (a2 : Int32) (h : am_H) (Q : am_H → Prop) (Qx : String → am_H → Prop) (q :
  (am_K h a0 = 9 ∧ ∃ (Q2 : Int32 → am_H → Prop) (X2 : String → am_H → Prop), am_Ct tt 100 [.ref a0, .int a2] h (am_pI Q2 X2) ∧ (∀ x3 h1, Q2 x3 h1 →
   ((x3 ≤ (Int32.ofNat 0) →
    Q h1) ∧
   (¬ (x3 ≤ (Int32.ofNat 0)) →
    (am_K h1 a0 = 9 ∧ ∃ q4, am_R h1 8 3 a0 = some q4 ∧
    (am_K h1 q4 = 7 ∧ ∃ (Q6 : am_H → Prop) (X6 : String → am_H → Prop), am_Ct tt 68 [.ref q4, .int a1] h1 (am_pV Q6 X6) ∧ (∀ h5, Q6 h5 →
     (am_K h5 a0 = 9 ∧ ∃ q7, am_R h5 8 3 a0 = some q7 ∧
     (∃ (Q9 : Int32 → am_H → Prop), am_Ct tt 127 [.int a2] h5 (am_pI Q9 (fun _ _ => False)) ∧ (∀ x10 h8, Q9 x10 h8 →
      (am_K h8 q7 = 7 ∧ ∃ (Q12 : am_H → Prop) (X12 : String → am_H → Prop), am_Ct tt 71 [.ref q7, .long (x10).toInt64] h8 (am_pV Q12 X12) ∧ (∀ h11, Q12 h11 →
       (am_K h11 a0 = 9 ∧ ∃ q13, am_R h11 8 3 a0 = some q13 ∧
       (am_K h11 a0 = 9 ∧ ∃ q14, am_R h11 8 1 a0 = some q14 ∧
       (am_K h11 q13 = 7 ∧ ∃ (Q16 : am_H → Prop) (X16 : String → am_H → Prop), am_Ct tt 72 [.ref q13, .ref q14, .int a2] h11 (am_pV Q16 X16) ∧ (∀ h15, Q16 h15 →
        Q h15) ∧ (∀ E17 h15, X16 E17 h15 → Qx E17 h15))))) ∧ (∀ E18 h11, X12 E18 h11 → Qx E18 h11)))))) ∧ (∀ E19 h5, X6 E19 h5 → Qx E19 h5)))))) ∧ (∀ E20 h1, X2 E20 h1 → Qx E20 h1))) :
  am_Ev tt 99 0 [some (.ref a0), some (.int a1), some (.int a2)] [] h (am_pV Q Qx) := am_vc 23 [] q

/-! 98 yX8_addEmptyRows -/
theorem vc_98_0 (tt : Nat → Nat) (a0 : Nat) (h : am_H) (Q : am_H → Prop) (Qx : String → am_H → Prop) (q :
  am_Ev tt 98 2 [some (.ref a0), some (.int (Int32.ofNat 0)), none] [] h (am_pV Q Qx)) :
  am_Ev tt 98 0 [some (.ref a0), none, none] [] h (am_pV Q Qx) := am_vc 5 [(2, [true, true, false]), (57, [true, true, true]), (105, [true, true, true])] q
theorem vc_98_2 (tt : Nat → Nat) (a0 : Nat) (a1 : Int32) (h : am_H) (Q : am_H → Prop) (Qx : String → am_H → Prop) (q :
  (am_K h a0 = 9 ∧
  (((am_I h 8 4 a0) ≤ a1 →
   (am_K h a0 = 9 ∧
   (am_K h a0 = 9 ∧ ∃ (Q2 : am_H → Prop) (X2 : String → am_H → Prop), am_Ct tt 99 [.ref a0, .int (Int32.ofNat 14), .int (am_I h 8 4 a0)] h (am_pV Q2 X2) ∧ (∀ h1, Q2 h1 →
    (am_K h1 a0 = 9 ∧
    (am_K h1 a0 = 9 ∧
    am_Ev tt 98 57 [some (.ref a0), some (.int ((am_I h1 8 4 a0) - (am_I h1 8 5 a0))), some (.int (Int32.ofNat 0))] [] h1 (am_pV Q Qx)))) ∧ (∀ E3 h1, X2 E3 h1 → Qx E3 h1)))) ∧
  (¬ ((am_I h 8 4 a0) ≤ a1) →
   (am_K h a0 = 9 ∧ ∃ q4, am_R h 8 1 a0 = some q4 ∧
   (am_K h a0 = 9 ∧
   ((a1 < (am_I h 8 5 a0) →
    (vp_in a1 (am_N h q4) ∧ ∃ w5, ((am_K h q4 = 23 ∧ w5 = ((Int32.ofNat 0)).toInt8.toInt32) ∨ (am_K h q4 = 24 ∧ w5 = ((Int32.ofNat 0) &&& 1))) ∧
    am_Ev tt 98 2 [some (.ref a0), some (.int (a1 + (Int32.ofNat 1))), none] [] (am_sA h q4 (a1).toNatClampNeg w5) (am_pV Q Qx))) ∧
   (¬ (a1 < (am_I h 8 5 a0)) →
    (vp_in a1 (am_N h q4) ∧ ∃ w6, ((am_K h q4 = 23 ∧ w6 = ((Int32.ofNat 1)).toInt8.toInt32) ∨ (am_K h q4 = 24 ∧ w6 = ((Int32.ofNat 1) &&& 1))) ∧
    am_Ev tt 98 2 [some (.ref a0), some (.int (a1 + (Int32.ofNat 1))), none] [] (am_sA h q4 (a1).toNatClampNeg w6) (am_pV Q Qx)))))))))) :
  am_Ev tt 98 2 [some (.ref a0), some (.int a1), none] [] h (am_pV Q Qx) := am_vc 20 [(2, [true, true, false]), (57, [true, true, true]), (105, [true, true, true])] q
theorem vc_98_57 (tt : Nat → Nat) (a0 : Nat) (a1 : Int32) (a2 : Int32) (h : am_H) (Q : am_H → Prop) (Qx : String → am_H → Prop) (q :
  ((a1 ≤ a2 →
   (am_K h a0 = 9 ∧ ∃ (Q2 : am_H → Prop) (X2 : String → am_H → Prop), am_Ct tt 99 [.ref a0, .int (Int32.ofNat 15), .int a1] h (am_pV Q2 X2) ∧ (∀ h1, Q2 h1 →
    am_Ev tt 98 105 [some (.ref a0), some (.int a1), some (.int (Int32.ofNat 0))] [] h1 (am_pV Q Qx)) ∧ (∀ E3 h1, X2 E3 h1 → Qx E3 h1))) ∧
  (¬ (a1 ≤ a2) →
   (am_K h a0 = 9 ∧ ∃ q4, am_R h 8 1 a0 = some q4 ∧
   (am_K h a0 = 9 ∧ ∃ q5, am_R h 8 0 a0 = some q5 ∧
   (am_K h a0 = 9 ∧
   ((am_K h q5 = 26 ∨ am_K h q5 = 27) ∧ vp_in ((am_I h 8 5 a0) + a2) (am_N h q5) ∧ ∃ q6, am_C h q5 (((am_I h 8 5 a0) + a2)).toNatClampNeg = some q6 ∧
   (am_K h q6 = 5 ∧
   ((¬ (am_I h 4 4 q6) = (Int32.ofNat 0) →
    (vp_in a2 (am_N h q4) ∧ ∃ w7, ((am_K h q4 = 23 ∧ w7 = ((Int32.ofNat 0)).toInt8.toInt32) ∨ (am_K h q4 = 24 ∧ w7 = ((Int32.ofNat 0) &&& 1))) ∧
    am_Ev tt 98 57 [some (.ref a0), some (.int a1), some (.int (a2 + (Int32.ofNat 1)))] [] (am_sA h q4 (a2).toNatClampNeg w7) (am_pV Q Qx))) ∧
   (¬ (¬ (am_I h 4 4 q6) = (Int32.ofNat 0)) →
    (vp_in a2 (am_N h q4) ∧ ∃ w8, ((am_K h q4 = 23 ∧ w8 = ((Int32.ofNat 1)).toInt8.toInt32) ∨ (am_K h q4 = 24 ∧ w8 = ((Int32.ofNat 1) &&& 1))) ∧
    am_Ev tt 98 57 [some (.ref a0), some (.int a1), some (.int (a2 + (Int32.ofNat 1)))] [] (am_sA h q4 (a2).toNatClampNeg w8) (am_pV Q Qx)))))))))))) :
  am_Ev tt 98 57 [some (.ref a0), some (.int a1), some (.int a2)] [] h (am_pV Q Qx) := am_vc 23 [(2, [true, true, false]), (57, [true, true, true]), (105, [true, true, true])] q
theorem vc_98_105 (tt : Nat → Nat) (a0 : Nat) (a1 : Int32) (a2 : Int32) (h : am_H) (Q : am_H → Prop) (Qx : String → am_H → Prop) (q :
  ((a1 ≤ a2 →
   (am_K h a0 = 9 ∧ ∃ (Q2 : am_H → Prop) (X2 : String → am_H → Prop), am_Ct tt 99 [.ref a0, .int (Int32.ofNat 16), .int a1] h (am_pV Q2 X2) ∧ (∀ h1, Q2 h1 →
    Q h1) ∧ (∀ E3 h1, X2 E3 h1 → Qx E3 h1))) ∧
  (¬ (a1 ≤ a2) →
   (am_K h a0 = 9 ∧ ∃ q4, am_R h 8 1 a0 = some q4 ∧
   (am_K h a0 = 9 ∧ ∃ q5, am_R h 8 0 a0 = some q5 ∧
   (am_K h a0 = 9 ∧
   ((am_K h q5 = 26 ∨ am_K h q5 = 27) ∧ vp_in ((am_I h 8 5 a0) + a2) (am_N h q5) ∧ ∃ q6, am_C h q5 (((am_I h 8 5 a0) + a2)).toNatClampNeg = some q6 ∧
   (am_K h q6 = 5 ∧
   (vp_in a2 (am_N h q4) ∧ ∃ w7, ((am_K h q4 = 23 ∧ w7 = ((am_I h 4 6 q6)).toInt8.toInt32) ∨ (am_K h q4 = 24 ∧ w7 = ((am_I h 4 6 q6) &&& 1))) ∧
   am_Ev tt 98 105 [some (.ref a0), some (.int a1), some (.int (a2 + (Int32.ofNat 1)))] [] (am_sA h q4 (a2).toNatClampNeg w7) (am_pV Q Qx)))))))))) :
  am_Ev tt 98 105 [some (.ref a0), some (.int a1), some (.int a2)] [] h (am_pV Q Qx) := am_vc 20 [(2, [true, true, false]), (57, [true, true, true]), (105, [true, true, true])] q

/-! 101 yX8_addNames -/
theorem vc_101_0 (tt : Nat → Nat) (a0 : Nat) (h : am_H) (Q : am_H → Prop) (Qx : String → am_H → Prop) (q :
  am_Ev tt 101 4 [some (.ref a0), some (.int (Int32.ofNat 0)), some (.int (Int32.ofNat 0)), none] [] h (am_pV Q Qx)) :
  am_Ev tt 101 0 [some (.ref a0), none, none, none] [] h (am_pV Q Qx) := am_vc 7 [(4, [true, true, true, false]), (64, [true, false, true, false]), (74, [true, false, true, true])] q
theorem vc_101_4 (tt : Nat → Nat) (a0 : Nat) (a1 : Int32) (a2 : Int32) (h : am_H) (Q : am_H → Prop) (Qx : String → am_H → Prop) (q :
  (am_K h a0 = 9 ∧
  (((am_I h 8 4 a0) ≤ a2 →
   (am_K h a0 = 9 ∧ ∃ q1, am_R h 8 3 a0 = some q1 ∧
   (am_K h q1 = 7 ∧ ∃ (Q3 : am_H → Prop) (X3 : String → am_H → Prop), am_Ct tt 68 [.ref q1, .int (Int32.ofNat 17)] h (am_pV Q3 X3) ∧ (∀ h2, Q3 h2 →
    (am_K h2 a0 = 9 ∧ ∃ q4, am_R h2 8 3 a0 = some q4 ∧
    (am_K h2 q4 = 7 ∧ ∃ (Q6 : am_H → Prop) (X6 : String → am_H → Prop), am_Ct tt 71 [.ref q4, .long (((Int32.ofNat 1) + ((Int32.ofNat 2) * a1))).toInt64] h2 (am_pV Q6 X6) ∧ (∀ h5, Q6 h5 →
     (am_K h5 a0 = 9 ∧ ∃ q7, am_R h5 8 3 a0 = some q7 ∧
     (am_K h5 q7 = 7 ∧ ∃ (Q9 : am_H → Prop) (X9 : String → am_H → Prop), am_Ct tt 68 [.ref q7, .int (Int32.ofNat 0)] h5 (am_pV Q9 X9) ∧ (∀ h8, Q9 h8 →
      am_Ev tt 101 64 [some (.ref a0), none, some (.int (Int32.ofNat 0)), none] [] h8 (am_pV Q Qx)) ∧ (∀ E10 h8, X9 E10 h8 → Qx E10 h8)))) ∧ (∀ E11 h5, X6 E11 h5 → Qx E11 h5)))) ∧ (∀ E12 h2, X3 E12 h2 → Qx E12 h2)))) ∧
  (¬ ((am_I h 8 4 a0) ≤ a2) →
   (am_K h a0 = 9 ∧ ∃ q13, am_R h 8 0 a0 = some q13 ∧
   ((am_K h q13 = 26 ∨ am_K h q13 = 27) ∧ vp_in a2 (am_N h q13) ∧ ∃ q14, am_C h q13 (a2).toNatClampNeg = some q14 ∧
   (am_K h q14 = 5 ∧
   am_Ev tt 101 4 [some (.ref a0), some (.int (a1 + ((am_I h 4 1 q14) + (Int32.ofNat 1)))), some (.int (a2 + (Int32.ofNat 1))), none] [] h (am_pV Q Qx)))))))) :
  am_Ev tt 101 4 [some (.ref a0), some (.int a1), some (.int a2), none] [] h (am_pV Q Qx) := am_vc 26 [(4, [true, true, true, false]), (64, [true, false, true, false]), (74, [true, false, true, true])] q
theorem vc_101_64 (tt : Nat → Nat) (a0 : Nat) (a2 : Int32) (h : am_H) (Q : am_H → Prop) (Qx : String → am_H → Prop) (q :
  (am_K h a0 = 9 ∧
  (((am_I h 8 4 a0) ≤ a2 →
   Q h) ∧
  (¬ ((am_I h 8 4 a0) ≤ a2) →
   am_Ev tt 101 74 [some (.ref a0), none, some (.int a2), some (.int (Int32.ofNat 0))] [] h (am_pV Q Qx))))) :
  am_Ev tt 101 64 [some (.ref a0), none, some (.int a2), none] [] h (am_pV Q Qx) := am_vc 9 [(4, [true, true, true, false]), (64, [true, false, true, false]), (74, [true, false, true, true])] q
theorem vc_101_74 (tt : Nat → Nat) (a0 : Nat) (a2 : Int32) (a3 : Int32) (h : am_H) (Q : am_H → Prop) (Qx : String → am_H → Prop) (q :
  (am_K h a0 = 9 ∧ ∃ q1, am_R h 8 0 a0 = some q1 ∧
  ((am_K h q1 = 26 ∨ am_K h q1 = 27) ∧ vp_in a2 (am_N h q1) ∧ ∃ q2, am_C h q1 (a2).toNatClampNeg = some q2 ∧
  (am_K h q2 = 5 ∧
  (((am_I h 4 1 q2) ≤ a3 →
   (am_K h a0 = 9 ∧ ∃ q3, am_R h 8 3 a0 = some q3 ∧
   (am_K h q3 = 7 ∧ ∃ (Q5 : am_H → Prop) (X5 : String → am_H → Prop), am_Ct tt 70 [.ref q3, .long (Int64.ofNat 0), .int (Int32.ofNat 2)] h (am_pV Q5 X5) ∧ (∀ h4, Q5 h4 →
    am_Ev tt 101 64 [some (.ref a0), none, some (.int (a2 + (Int32.ofNat 1))), none] [] h4 (am_pV Q Qx)) ∧ (∀ E6 h4, X5 E6 h4 → Qx E6 h4)))) ∧
  (¬ ((am_I h 4 1 q2) ≤ a3) →
   (am_K h a0 = 9 ∧ ∃ q7, am_R h 8 3 a0 = some q7 ∧
   (am_K h a0 = 9 ∧ ∃ q8, am_R h 8 0 a0 = some q8 ∧
   ((am_K h q8 = 26 ∨ am_K h q8 = 27) ∧ vp_in a2 (am_N h q8) ∧ ∃ q9, am_C h q8 (a2).toNatClampNeg = some q9 ∧
   (am_K h q9 = 5 ∧ ∃ q10, am_R h 4 0 q9 = some q10 ∧
   (am_K h q10 = 25 ∧ vp_in a3 (am_N h q10) ∧
   (am_K h q7 = 7 ∧ ∃ (Q12 : am_H → Prop) (X12 : String → am_H → Prop), am_Ct tt 70 [.ref q7, .long ((am_A h q10 (a3).toNatClampNeg)).toInt64, .int (Int32.ofNat 2)] h (am_pV Q12 X12) ∧ (∀ h11, Q12 h11 →
    am_Ev tt 101 74 [some (.ref a0), none, some (.int a2), some (.int (a3 + (Int32.ofNat 1)))] [] h11 (am_pV Q Qx)) ∧ (∀ E13 h11, X12 E13 h11 → Qx E13 h11))))))))))))) :
  am_Ev tt 101 74 [some (.ref a0), none, some (.int a2), some (.int a3)] [] h (am_pV Q Qx) := am_vc 24 [(4, [true, true, true, false]), (64, [true, false, true, false]), (74, [true, false, true, true])] q

/-! 102 yX8_addValues -/
theorem vc_102_0 (tt : Nat → Nat) (a0 : Nat) (a1 : Int32) (a2 : Int32) (h : am_H) (Q : am_H → Prop) (Qx : String → am_H → Prop) (q :
  (am_K h a0 = 9 ∧
  (am_K h a0 = 9 ∧ ∃ (Q2 : Int32 → am_H → Prop) (X2 : String → am_H → Prop), am_Ct tt 100 [.ref a0, .int (am_I h 8 4 a0)] h (am_pI Q2 X2) ∧ (∀ x3 h1, Q2 x3 h1 →
   ((¬ x3 = (Int32.ofNat 0) →
    (am_K h1 a0 = 9 ∧
    ((¬ x3 = (am_I h1 8 4 a0) →
     (am_K h1 a0 = 9 ∧
     (∃ (Q5 : Int32 → am_H → Prop), am_Ct tt 127 [.int (am_I h1 8 4 a0)] h1 (am_pI Q5 (fun _ _ => False)) ∧ (∀ x6 h4, Q5 x6 h4 →
      am_Ev tt 102 35 [some (.ref a0), some (.int a1), some (.int a2), some (.int x3), some (.int x6), none] [] h4 (am_pV Q Qx))))) ∧
    (¬ (¬ x3 = (am_I h1 8 4 a0)) →
     am_Ev tt 102 35 [some (.ref a0), some (.int a1), some (.int a2), some (.int x3), some (.int (Int32.ofNat 0)), none] [] h1 (am_pV Q Qx))))) ∧
   (¬ (¬ x3 = (Int32.ofNat 0)) →
    Q h1))) ∧ (∀ E7 h1, X2 E7 h1 → Qx E7 h1)))) :
  am_Ev tt 102 0 [some (.ref a0), some (.int a1), some (.int a2), none, none, none] [] h (am_pV Q Qx) := am_vc 18 [(35, [true, true, true, true, true, false]), (79, [true, true, true, true, false, false]), (102, [true, true, true, false, false, false]), (113, [true, true, true, false, false, true])] q
theorem vc_102_35 (tt : Nat → Nat) (a0 : Nat) (a1 : Int32) (a2 : Int32) (a3 : Int32) (a4 : Int32) (h : am_H) (Q : am_H → Prop) (Qx : String → am_H → Prop) (q :
  (am_K h a0 = 9 ∧ ∃ q1, am_R h 8 3 a0 = some q1 ∧
  (am_K h q1 = 7 ∧ ∃ (Q3 : am_H → Prop) (X3 : String → am_H → Prop), am_Ct tt 68 [.ref q1, .int a1] h (am_pV Q3 X3) ∧ (∀ h2, Q3 h2 →
   (am_K h2 a0 = 9 ∧ ∃ q4, am_R h2 8 3 a0 = some q4 ∧
   (am_K h2 q4 = 7 ∧ ∃ (Q6 : am_H → Prop) (X6 : String → am_H → Prop), am_Ct tt 71 [.ref q4, .long ((((Int32.ofNat 2) + a4) + (a3 * a2))).toInt64] h2 (am_pV Q6 X6) ∧ (∀ h5, Q6 h5 →
    (am_K h5 a0 = 9 ∧ ∃ q7, am_R h5 8 3 a0 = some q7 ∧
    (am_K h5 a0 = 9 ∧
    ((¬ a3 = (am_I h5 8 4 a0) →
     (am_K h5 q7 = 7 ∧ ∃ (Q9 : am_H → Prop) (X9 : String → am_H → Prop), am_Ct tt 68 [.ref q7, .int (Int32.ofNat 0)] h5 (am_pV Q9 X9) ∧ (∀ h8, Q9 h8 →
      am_Ev tt 102 79 [some (.ref a0), some (.int a1), some (.int a2), some (.int a3), none, none] [] h8 (am_pV Q Qx)) ∧ (∀ E10 h8, X9 E10 h8 → Qx E10 h8))) ∧
    (¬ (¬ a3 = (am_I h5 8 4 a0)) →
     (am_K h5 q7 = 7 ∧ ∃ (Q12 : am_H → Prop) (X12 : String → am_H → Prop), am_Ct tt 68 [.ref q7, .int (Int32.ofNat 1)] h5 (am_pV Q12 X12) ∧ (∀ h11, Q12 h11 →
      am_Ev tt 102 79 [some (.ref a0), some (.int a1), some (.int a2), some (.int a3), none, none] [] h11 (am_pV Q Qx)) ∧ (∀ E13 h11, X12 E13 h11 → Qx E13 h11))))))) ∧ (∀ E14 h5, X6 E14 h5 → Qx E14 h5)))) ∧ (∀ E15 h2, X3 E15 h2 → Qx E15 h2)))) :
  am_Ev tt 102 35 [some (.ref a0), some (.int a1), some (.int a2), some (.int a3), some (.int a4), none] [] h (am_pV Q Qx) := am_vc 27 [(35, [true, true, true, true, true, false]), (79, [true, true, true, true, false, false]), (102, [true, true, true, false, false, false]), (113, [true, true, true, false, false, true])] q
theorem vc_102_79 (tt : Nat → Nat) (a0 : Nat) (a1 : Int32) (a2 : Int32) (a3 : Int32) (h : am_H) (Q : am_H → Prop) (Qx : String → am_H → Prop) (q :
  (am_K h a0 = 9 ∧
  (((am_I h 8 4 a0) ≤ a3 →
   am_Ev tt 102 102 [some (.ref a0), some (.int a1), some (.int a2), none, none, none] [] h (am_pV Q Qx)) ∧
  (¬ ((am_I h 8 4 a0) ≤ a3) →
   (am_K h a0 = 9 ∧ ∃ q1, am_R h 8 3 a0 = some q1 ∧
   (am_K h a0 = 9 ∧ ∃ q2, am_R h 8 1 a0 = some q2 ∧
   (am_K h a0 = 9 ∧
   (am_K h q1 = 7 ∧ ∃ (Q4 : am_H → Prop) (X4 : String → am_H → Prop), am_Ct tt 72 [.ref q1, .ref q2, .int (am_I h 8 4 a0)] h (am_pV Q4 X4) ∧ (∀ h3, Q4 h3 →
    am_Ev tt 102 102 [some (.ref a0), some (.int a1), some (.int a2), none, none, none] [] h3 (am_pV Q Qx)) ∧ (∀ E5 h3, X4 E5 h3 → Qx E5 h3))))))))) :
  am_Ev tt 102 79 [some (.ref a0), some (.int a1), some (.int a2), some (.int a3), none, none] [] h (am_pV Q Qx) := am_vc 14 [(35, [true, true, true, true, true, false]), (79, [true, true, true, true, false, false]), (102, [true, true, true, false, false, false]), (113, [true, true, true, false, false, true])] q
theorem vc_102_102 (tt : Nat → Nat) (a0 : Nat) (a1 : Int32) (a2 : Int32) (h : am_H) (Q : am_H → Prop) (Qx : String → am_H → Prop) (q :
  (am_K h a0 = 9 ∧ ∃ q1, am_R h 8 3 a0 = some q1 ∧
  (am_K h q1 = 7 ∧ ∃ (Q3 : am_H → Prop) (X3 : String → am_H → Prop), am_Ct tt 68 [.ref q1, .int (Int32.ofNat 0)] h (am_pV Q3 X3) ∧ (∀ h2, Q3 h2 →
   am_Ev tt 102 113 [some (.ref a0), some (.int a1), some (.int a2), none, none, some (.int (Int32.ofNat 0))] [] h2 (am_pV Q Qx)) ∧ (∀ E4 h2, X3 E4 h2 → Qx E4 h2)))) :
  am_Ev tt 102 102 [some (.ref a0), some (.int a1), some (.int a2), none, none, none] [] h (am_pV Q Qx) := am_vc 9 [(35, [true, true, true, true, true, false]), (79, [true, true, true, true, false, false]), (102, [true, true, true, false, false, false]), (113, [true, true, true, false, false, true])] q
theorem vc_102_113 (tt : Nat → Nat) (a0 : Nat) (a1 : Int32) (a2 : Int32) (a5 : Int32) (h : am_H) (Q : am_H → Prop) (Qx : String → am_H → Prop) (q :
  (am_K h a0 = 9 ∧
  (((am_I h 8 4 a0) ≤ a5 →
   Q h) ∧
  (¬ ((am_I h 8 4 a0) ≤ a5) →
   (am_K h a0 = 9 ∧ ∃ q1, am_R h 8 1 a0 = some q1 ∧
   ((am_K h q1 = 23 ∨ am_K h q1 = 24) ∧ vp_in a5 (am_N h q1) ∧
   (((am_A h q1 (a5).toNatClampNeg) = (Int32.ofNat 0) →
    am_Ev tt 102 113 [some (.ref a0), some (.int a1), some (.int a2), none, none, some (.int (a5 + (Int32.ofNat 1)))] [] h (am_pV Q Qx)) ∧
   (¬ ((am_A h q1 (a5).toNatClampNeg) = (Int32.ofNat 0)) →
    (am_K h a0 = 9 ∧ ∃ q2, am_R h 8 3 a0 = some q2 ∧
    ((¬ a1 = (Int32.ofNat 20) →
     (am_K h a0 = 9 ∧ ∃ q3, am_R h 8 0 a0 = some q3 ∧
     ((am_K h q3 = 26 ∨ am_K h q3 = 27) ∧ vp_in a5 (am_N h q3) ∧ ∃ q4, am_C h q3 (a5).toNatClampNeg = some q4 ∧
     (am_K h q4 = 5 ∧
     (am_K h q2 = 7 ∧ ∃ (Q6 : am_H → Prop) (X6 : String → am_H → Prop), am_Ct tt 70 [.ref q2, .long ((am_I h 4 10 q4)).toInt64, .int a2] h (am_pV Q6 X6) ∧ (∀ h5, Q6 h5 →
      am_Ev tt 102 113 [some (.ref a0), some (.int a1), some (.int a2), none, none, some (.int (a5 + (Int32.ofNat 1)))] [] h5 (am_pV Q Qx)) ∧ (∀ E7 h5, X6 E7 h5 → Qx E7 h5)))))) ∧
    (¬ (¬ a1 = (Int32.ofNat 20)) →
     (am_K h a0 = 9 ∧ ∃ q8, am_R h 8 0 a0 = some q8 ∧
     ((am_K h q8 = 26 ∨ am_K h q8 = 27) ∧ vp_in a5 (am_N h q8) ∧ ∃ q9, am_C h q8 (a5).toNatClampNeg = some q9 ∧
     (am_K h q9 = 5 ∧
     (am_K h q2 = 7 ∧ ∃ (Q11 : am_H → Prop) (X11 : String → am_H → Prop), am_Ct tt 70 [.ref q2, .long (am_J h 4 8 q9), .int a2] h (am_pV Q11 X11) ∧ (∀ h10, Q11 h10 →
      am_Ev tt 102 113 [some (.ref a0), some (.int a1), some (.int a2), none, none, some (.int (a5 + (Int32.ofNat 1)))] [] h10 (am_pV Q Qx)) ∧ (∀ E12 h10, X11 E12 h10 → Qx E12 h10)))))))))))))))) :
  am_Ev tt 102 113 [some (.ref a0), some (.int a1), some (.int a2), none, none, some (.int a5)] [] h (am_pV Q Qx) := am_vc 27 [(35, [true, true, true, true, true, false]), (79, [true, true, true, true, false, false]), (102, [true, true, true, false, false, false]), (113, [true, true, true, false, false, true])] q

theorem cn_ext {g g' : Nat → Bool} : ∀ {n : Nat}, (∀ j, j < n → g j = g' j) → cn g n = cn g' n
  | 0, _ => rfl
  | n + 1, e => by unfold cn; rw [cn_ext (n := n) (fun j hj => e j (by omega)), e n (by omega)]
theorem cn_pos {g : Nat → Bool} : ∀ {n j : Nat}, j < n → g j = true → 0 < cn g n
  | 0, j, h, _ => absurd h (Nat.not_lt_zero j)
  | n + 1, j, h, e => by
    unfold cn
    by_cases c : j = n
    · subst c; rw [if_pos e]; omega
    · have := cn_pos (g := g) (n := n) (j := j) (by omega) e
      omega
theorem bg_b {f : Nat → Int32} {g : Nat → Bool} {n : Nat} (e : ∀ j, j < n → f j = b01 (g j)) : bg f n = bgb n g := by
  funext j
  unfold bg bgb
  by_cases c : j < n
  · simp only [e j c, b01_z]
    cases g j <;> simp [c]
  · rw [decide_eq_false (by omega), decide_eq_false (by omega)]
theorem cn_b {f : Nat → Int32} {g : Nat → Bool} {n : Nat} (e : ∀ j, j < n → f j = b01 (g j)) : cn (fun j => decide (¬ f j = Int32.ofNat 0)) n = cn g n := cn_ext fun j hj => by
  simp only [e j hj, b01_z]
  cases g j <;> simp
theorem b01_a {b : Bool} : b01 b &&& 1 = b01 b := by cases b <;> rfl
section WG
variable {tt : Nat → Nat} {h h' : am_H} {cd : Nat → Nat} {bb : Nat → Nat → Nat} {wa wt : Nat} {a : sA}
theorem tp_b_cA {t b x : Nat} {h : am_H} {v : Int32} {f : Nat → Int32} (e : x ≠ b) : am_cA (tp_b t b h v) x f = tp_b t b (am_cA h x f) v := by
  have hI : am_I (am_cA h x f) = am_I h := rfl
  unfold tp_b
  rw [hI]
  by_cases c : am_I h 6 1 t < Int32.ofNat 5000
  · rw [if_pos c, if_pos c]
    simp only [am_sI, am_cA, am_sA, am_K, am_I, am_J, am_R, am_N, am_A, am_B, am_C, am_U, am_V, Prod.mk.injEq, true_and, and_true]
    funext y j
    simp only [va_up, am_u2]
    by_cases c1 : y = x
    · rw [if_pos c1, if_neg (fun z => e (c1 ▸ z.1)), if_pos c1]
    · rw [if_neg c1, if_neg c1]
      rfl
  · rw [if_neg c, if_neg c]
    rfl
theorem tp_l_cA {t b x : Nat} {f : Nat → Int32} (e : x ≠ b) : ∀ {l : List Int32} {h : am_H}, am_cA (tp_l t b h l) x f = tp_l t b (am_cA h x f) l
  | [], _ => rfl
  | v :: l, h => by rw [tp_l_cons, tp_l_cons, tp_l_cA e, tp_b_cA e]
theorem WA.n22 (x : WA tt h cd bb wa wt a) : cd 22 ≠ cd (c_tb (1 - wt)) := fun e => by have := x.1.2.2.1.1 _ _ e; unfold c_tb at this; omega
/-- one flag -/
theorem ft_s {f : Nat → Int32} {l : List Int32} {i : Nat} {v : Int32} (ne : cd 22 ≠ cd (c_tb (1 - wt))) : am_sA (tw cd wt (am_cA h (cd 22) f) l) (cd 22) i v = tw cd wt (am_cA h (cd 22) (va_up f i v)) l := by
  rw [sA_cA, tp_l_A ne, cA_A, tp_l_cA ne, cA_cA]
theorem ft_A {f : Nat → Int32} {l : List Int32} (ne : cd 22 ≠ cd (c_tb (1 - wt))) : am_A (tw cd wt (am_cA h (cd 22) f) l) (cd 22) = f := by rw [tp_l_A ne, cA_A]
theorem ct_addRow (x : WX tt h cd bb wa wt a) {t m : Nat} {g : Nat → Bool} (hm : m ≤ 24) (hf : ∀ j, j < m → am_A h (cd 22) j = b01 (g j)) : am_Ct tt 99 [.ref (cd 20), .int (Int32.ofNat t), .int (Int32.ofNat m)] h (am_pV (fun h' => h' = tw cd wt h (if 0 < cn g m then wRow t m g else [])) no_x) := by
  have f := x.1.f
  have hc := cn_le g m
  refine vc_99_0 tt _ _ _ h _ _ ⟨f.1, _, _, ct_countFlags x hm, fun r k0 e => ?_, fun _ _ z => z⟩
  obtain ⟨er, rfl⟩ := e
  rw [cn_b hf] at er
  subst er
  simp (disch := omega) only [qi_lt, qi_le, qi_eq, qi_nn, qi_in, qi_add, qi_l, ql_i, ql_lt, ql_le, ql_eq, ql_add, qc_lt, qc_eq, qc_ge, qc_gt, qc_le]
  refine ⟨fun z => by rw [if_neg (by omega)]; rfl, fun z => x.b fun h1 e1 x1 => ?_⟩
  have f1 := x1.1.f
  refine ⟨f1.1, _, x1.1.2.2.2.2.2.1, _, ct_bytesForBits hm, fun r k e => ?_⟩
  obtain ⟨er, rfl⟩ := e
  subst er
  refine x1.n' (m := (m + 7) / 8) (by omega) (by rw [qi_l (by omega)]) fun h2 e2 x2 => ?_
  have f2 := x2.1.f
  refine ⟨f2.1, _, x2.1.2.2.2.2.2.1, f2.1, _, f2.2.2.2.2.1, x2.r' hm fun h3 e3 x3 => ?_⟩
  have ea : am_A h2 (cd 22) = am_A k0 (cd 22) := by rw [e2, tp_l_A x.1.n22, e1, tp_l_A x.1.n22]
  rw [e3, ea, bg_b hf, e2, e1, tw_a, tw_a, if_pos (by omega)]
  rfl
theorem ct_addEmptyRows (x : WX tt h cd bb wa wt a) (hn : (oK a).length < a_n a) : am_Ct tt 98 [.ref (cd 20)] h (am_pV (fun h' => ∃ f, h' = tw cd wt (am_cA h (cd 22) f) (wEm a)) no_x) := by
  have wf := x.1.2.2.1
  have n24 := wf.1
  have ne := x.1.n22
  have xF : ∀ f l, WX tt (tw cd wt (am_cA h (cd 22) f) l) cd bb wa wt a := fun f l => (x.fl f).tl l
  have eW : wEm a = wRow 14 (a_n a) (fun j => decide ((oK a).length ≤ j)) ++ ((if 0 < cn (fun j => decide (e_kd (a_E a (oo a ((oK a).length + j))) = 0)) (a_n a - (oK a).length) then wRow 15 (a_n a - (oK a).length) (fun j => decide (e_kd (a_E a (oo a ((oK a).length + j))) = 0)) else []) ++ (if 0 < cn (fun j => e_an (a_E a (oo a ((oK a).length + j)))) (a_n a - (oK a).length) then wRow 16 (a_n a - (oK a).length) (fun j => e_an (a_E a (oo a ((oK a).length + j)))) else [])) := by rw [wEm, if_pos hn]
  have key3 : ∀ (d i : Nat) (f : Nat → Int32) (l : List Int32), d + i = a_n a - (oK a).length → (∀ j, j < i → f j = b01 (e_an (a_E a (oo a ((oK a).length + j))))) →
      am_Ev tt 98 105 [some (.ref (cd 20)), some (.int (Int32.ofNat (a_n a - (oK a).length))), some (.int (Int32.ofNat i))] [] (tw cd wt (am_cA h (cd 22) f) l) (am_pV (fun h' => ∃ f, h' = tw cd wt (am_cA h (cd 22) f) (l ++ (if 0 < cn (fun j => e_an (a_E a (oo a ((oK a).length + j)))) (a_n a - (oK a).length) then wRow 16 (a_n a - (oK a).length) (fun j => e_an (a_E a (oo a ((oK a).length + j)))) else []))) no_x) := by
    intro d
    induction d with
    | zero =>
      intro i f l e hf
      have y := xF f l
      have : i = a_n a - (oK a).length := by omega
      subst this
      refine vc_98_105 tt _ _ _ _ _ _ ⟨fun _ => ⟨y.1.f.1, _, _, ct_addRow y (by omega) (fun j hj => by rw [ft_A ne]; exact hf j hj), fun k e => ⟨f, ?_⟩, fun _ _ z => z⟩, fun z => absurd (Int32.le_refl _) z⟩
      rw [e, tw_a]
    | succ d ih =>
      intro i f l e hf
      have y := xF f l
      have F := y.1.f
      have g := y.en (j := (oK a).length + i) (by omega)
      have v := (y.ev (j := (oK a).length + i) (by omega)).2.2.2.2.2.1
      have y3 := y.2.2.1
      have i24 : i < 24 := by omega
      have j24 : (oK a).length + i < 24 := by omega
      have K24 : (oK a).length < 24 := by omega
      refine vc_98_105 tt _ _ _ _ _ _ ?_
      simp (disch := omega) only [F, y3, g, v, i24, j24, b01_a, am_hs, qi_lt, qi_le, qi_eq, qi_nn, qi_in, qi_add, qi_l, ql_i, ql_lt, ql_le, ql_eq, ql_add, qc_lt, qc_eq, qc_ge, qc_gt, qc_le, true_and, and_true, and_self, true_or, or_true, false_or, or_false, false_and, and_false, not_true_eq_false, not_false_eq_true, Classical.not_not, true_implies, false_implies, implies_true, exists_eq_left, exists_eq_left', Option.some.injEq, reduceIte, Nat.reduceEqDiff, Nat.reduceLT, Nat.reduceLeDiff, Nat.reduceAdd, Nat.reduceSub, Nat.reduceMul, eq_self, ne_eq, and_imp, forall_const, reduceCtorEq, am_w, List.map_cons, List.map_nil, List.sum_cons, List.sum_nil, Value.category, Nat.zero_le, Nat.le_refl]
      refine ⟨fun z => by omega, fun _ => ?_⟩
      rw [ft_s ne]
      refine ih (i + 1) _ l (by omega) (fun j hj => ?_)
      unfold va_up
      split
      · next c => rw [c]
      · exact hf j (by omega)
  have key2 : ∀ (d i : Nat) (f : Nat → Int32) (l : List Int32), d + i = a_n a - (oK a).length → (∀ j, j < i → f j = b01 (decide (e_kd (a_E a (oo a ((oK a).length + j))) = 0))) →
      am_Ev tt 98 57 [some (.ref (cd 20)), some (.int (Int32.ofNat (a_n a - (oK a).length))), some (.int (Int32.ofNat i))] [] (tw cd wt (am_cA h (cd 22) f) l) (am_pV (fun h' => ∃ f, h' = tw cd wt (am_cA h (cd 22) f) (l ++ ((if 0 < cn (fun j => decide (e_kd (a_E a (oo a ((oK a).length + j))) = 0)) (a_n a - (oK a).length) then wRow 15 (a_n a - (oK a).length) (fun j => decide (e_kd (a_E a (oo a ((oK a).length + j))) = 0)) else []) ++ (if 0 < cn (fun j => e_an (a_E a (oo a ((oK a).length + j)))) (a_n a - (oK a).length) then wRow 16 (a_n a - (oK a).length) (fun j => e_an (a_E a (oo a ((oK a).length + j)))) else [])))) no_x) := by
    intro d
    induction d with
    | zero =>
      intro i f l e hf
      have y := xF f l
      have : i = a_n a - (oK a).length := by omega
      subst this
      refine vc_98_57 tt _ _ _ _ _ _ ⟨fun _ => ⟨y.1.f.1, _, _, ct_addRow y (by omega) (fun j hj => by rw [ft_A ne]; exact hf j hj), fun k e => ?_, fun _ _ z => z⟩, fun z => absurd (Int32.le_refl _) z⟩
      rw [e, tw_a]
      have := key3 (a_n a - (oK a).length) 0 f (l ++ (if 0 < cn (fun j => decide (e_kd (a_E a (oo a ((oK a).length + j))) = 0)) (a_n a - (oK a).length) then wRow 15 (a_n a - (oK a).length) (fun j => decide (e_kd (a_E a (oo a ((oK a).length + j))) = 0)) else [])) (by omega) (fun j hj => by omega)
      simp only [List.append_assoc] at this
      exact this
    | succ d ih =>
      intro i f l e hf
      have y := xF f l
      have F := y.1.f
      have g := y.en (j := (oK a).length + i) (by omega)
      have v := (y.ev (j := (oK a).length + i) (by omega)).1
      have y3 := y.2.2.1
      have i24 : i < 24 := by omega
      have j24 : (oK a).length + i < 24 := by omega
      have K24 : (oK a).length < 24 := by omega
      have k1 := (wf.2.1 _ (oo_lt wf (j := (oK a).length + i) (by omega))).1
      refine vc_98_57 tt _ _ _ _ _ _ ?_
      simp (disch := omega) only [F, y3, g, v, i24, j24, am_hs, qi_lt, qi_le, qi_eq, qi_nn, qi_in, qi_add, qi_l, ql_i, ql_lt, ql_le, ql_eq, ql_add, qc_lt, qc_eq, qc_ge, qc_gt, qc_le, true_and, and_true, and_self, true_or, or_true, false_or, or_false, false_and, and_false, not_true_eq_false, not_false_eq_true, Classical.not_not, true_implies, false_implies, implies_true, exists_eq_left, exists_eq_left', Option.some.injEq, reduceIte, Nat.reduceEqDiff, Nat.reduceLT, Nat.reduceLeDiff, Nat.reduceAdd, Nat.reduceSub, Nat.reduceMul, eq_self, ne_eq, and_imp, forall_const, reduceCtorEq, am_w, List.map_cons, List.map_nil, List.sum_cons, List.sum_nil, Value.category, Nat.zero_le, Nat.le_refl]
      refine ⟨fun z => by omega, fun _ => ⟨fun z => ?_, fun z => ?_⟩⟩
      · rw [ft_s ne]
        refine ih (i + 1) _ l (by omega) (fun j hj => ?_)
        unfold va_up
        split
        · next c => rw [c, decide_eq_false z]; rfl
        · exact hf j (by omega)
      · rw [ft_s ne]
        refine ih (i + 1) _ l (by omega) (fun j hj => ?_)
        unfold va_up
        split
        · next c => rw [c, decide_eq_true z]; rfl
        · exact hf j (by omega)
  have key : ∀ (d i : Nat) (f : Nat → Int32), d + i = a_n a → (∀ j, j < i → f j = b01 (decide ((oK a).length ≤ j))) →
      am_Ev tt 98 2 [some (.ref (cd 20)), some (.int (Int32.ofNat i)), none] [] (tw cd wt (am_cA h (cd 22) f) []) (am_pV (fun h' => ∃ f, h' = tw cd wt (am_cA h (cd 22) f) (wEm a)) no_x) := by
    intro d
    induction d with
    | zero =>
      intro i f e hf
      have y := xF f []
      have F := y.1.f
      have : i = a_n a := by omega
      subst this
      have y2 := y.2.1
      have c0 : 0 < cn (fun j => decide ((oK a).length ≤ j)) (a_n a) := cn_pos (j := (oK a).length) hn (by simp)
      refine vc_98_2 tt _ _ _ _ _ ⟨F.1, fun _ => ⟨F.1, F.1, ?_⟩, fun z => absurd (by rw [y2]; exact Int32.le_refl _) z⟩
      rw [y2]
      refine ⟨_, _, ct_addRow (g := fun j => decide ((oK a).length ≤ j)) y (by omega) (fun j hj => by rw [ft_A ne]; exact hf j hj), fun k e => ?_, fun _ _ z => z⟩
      rw [if_pos c0, tw_a, List.nil_append] at e
      have y' : WX tt k cd bb wa wt a := by rw [e]; exact xF f _
      have F' := y'.1.f
      refine ⟨F'.1, F'.1, ?_⟩
      rw [y'.2.1, y'.2.2.1, qi_sub (by omega), eW, e]
      exact key2 (a_n a - (oK a).length) 0 f _ (by omega) (fun j hj => by omega)
    | succ d ih =>
      intro i f e hf
      have y := xF f []
      have F := y.1.f
      have y2 := y.2.1
      have y3 := y.2.2.1
      have i24 : i < 24 := by omega
      refine vc_98_2 tt _ _ _ _ _ ?_
      simp (disch := omega) only [F, y2, y3, i24, am_hs, qi_lt, qi_le, qi_eq, qi_nn, qi_in, qi_add, qi_l, ql_i, ql_lt, ql_le, ql_eq, ql_add, qc_lt, qc_eq, qc_ge, qc_gt, qc_le, true_and, and_true, and_self, true_or, or_true, false_or, or_false, false_and, and_false, not_true_eq_false, not_false_eq_true, Classical.not_not, true_implies, false_implies, implies_true, exists_eq_left, exists_eq_left', Option.some.injEq, reduceIte, Nat.reduceEqDiff, Nat.reduceLT, Nat.reduceLeDiff, Nat.reduceAdd, Nat.reduceSub, Nat.reduceMul, eq_self, ne_eq, and_imp, forall_const, reduceCtorEq, am_w, List.map_cons, List.map_nil, List.sum_cons, List.sum_nil, Value.category, Nat.zero_le, Nat.le_refl]
      refine ⟨fun z => by omega, fun _ => ⟨fun z => ?_, fun z => ?_⟩⟩
      · rw [ft_s ne]
        refine ih (i + 1) _ (by omega) (fun j hj => ?_)
        unfold va_up
        split
        · next c => rw [c, decide_eq_false (by omega)]; rfl
        · exact hf j (by omega)
      · rw [ft_s ne]
        refine ih (i + 1) _ (by omega) (fun j hj => ?_)
        unfold va_up
        split
        · next c => rw [c, decide_eq_true (by omega)]; rfl
        · exact hf j (by omega)
  have := key (a_n a) 0 (am_A h (cd 22)) (by omega) (fun j hj => by omega)
  rw [show tw cd wt (am_cA h (cd 22) (am_A h (cd 22))) [] = h from cA_id] at this
  exact vc_98_0 tt _ h _ _ this
theorem map_oo {a : sA} (w : wfA a) : (R0 (a_n a)).map (oo a) = oA a := by
  unfold R0
  apply List.ext_getElem
  · rw [List.length_map, List.length_range', oA_n w]
  · intro i h1 h2
    rw [List.getElem_map, List.getElem_range', Nat.zero_add, Nat.one_mul, oo, List.getD_eq_getElem?_getD, List.getElem?_eq_getElem h2, Option.getD_some]
theorem su_s {f : Nat → Nat} {n : Nat} : su f (R0 (n + 1)) = su f (R0 n) + f n := by
  rw [R0_s, su_a]
  unfold su
  simp
theorem su_oo {a : sA} (w : wfA a) {f : Nat → Nat} : su (fun j => f (oo a j)) (R0 (a_n a)) = su f (R0 (a_n a)) := by
  have h1 := su_o (f := f) (E := a_E a) (n := a_n a) (k := a_n a) (Nat.le_refl _) (fun i hi => (w.2.1 i hi).2.2.2)
  rw [← h1]
  show _ = su f (oA a)
  rw [← map_oo w]
  unfold su
  rw [List.map_map]
  rfl
theorem su_b {f : Nat → Nat} {m : Nat} : ∀ {n : Nat}, (∀ j, j < n → f j ≤ m) → su f (R0 n) ≤ m * n
  | 0, _ => Nat.zero_le _
  | n + 1, h => by
    have h1 := su_b (f := f) (m := m) (n := n) (fun j hj => h j (by omega))
    have h2 := h n (by omega)
    rw [su_s, Nat.mul_add]
    omega
theorem uns_b {a : sA} (w : wfA a) : uns a ≤ 504 := by
  have := su_b (f := fun i => e_un (a_E a i) + 1) (m := 21) (n := a_n a) (fun j hj => by have := (w.2.1 j hj).2.1; omega)
  have := w.1
  unfold uns
  omega
theorem ct_addNames (x : WX tt h cd bb wa wt a) : am_Ct tt 101 [.ref (cd 20)] h (am_pV (fun h' => h' = tw cd wt h ([Int32.ofNat 17] ++ (nb (1 + 2 * uns a) ++ ([Int32.ofNat 0] ++ wNm a)))) no_x) := by
  have wf := x.1.2.2.1
  have n24 := wf.1
  have ub := uns_b wf
  have key3 : ∀ (i : Nat), i < a_n a → ∀ (d j : Nat) (k : am_H) (l : List Int32) (Q : am_H → Prop), d + j = e_un (a_E a (oo a i)) → WX tt k cd bb wa wt a → k = tw cd wt h (l ++ (R0 j).flatMap (fun k => LB 2 (e_nm (a_E a (oo a i)) k).toInt64)) →
      (∀ k', WX tt k' cd bb wa wt a → k' = tw cd wt h (l ++ ((R0 (e_un (a_E a (oo a i)))).flatMap (fun k => LB 2 (e_nm (a_E a (oo a i)) k).toInt64) ++ LB 2 (Int64.ofNat 0))) → am_Ev tt 101 64 [some (.ref (cd 20)), none, some (.int (Int32.ofNat (i + 1))), none] [] k' (am_pV Q no_x)) →
      am_Ev tt 101 74 [some (.ref (cd 20)), none, some (.int (Int32.ofNat i)), some (.int (Int32.ofNat j))] [] k (am_pV Q no_x) := by
    intro i hi d
    have w2 := (wf.2.1 _ (oo_lt wf hi)).2.1
    induction d with
    | zero =>
      intro j k l Q e y ek hQ
      have F := y.1.f
      have g := y.en hi
      have v := (y.ev hi).2.1
      have i24 : i < 24 := by omega
      have : j = e_un (a_E a (oo a i)) := by omega
      subst this
      refine vc_101_74 tt _ _ _ _ _ _ ?_
      simp (disch := omega) only [F, g, v, i24, am_hs, qi_lt, qi_le, qi_eq, qi_nn, qi_in, qi_add, qi_l, ql_i, ql_lt, ql_le, ql_eq, ql_add, qc_lt, qc_eq, qc_ge, qc_gt, qc_le, true_and, and_true, and_self, true_or, or_true, false_or, or_false, false_and, and_false, not_true_eq_false, not_false_eq_true, Classical.not_not, true_implies, false_implies, implies_true, exists_eq_left, exists_eq_left', Option.some.injEq, reduceIte, Nat.reduceEqDiff, Nat.reduceLT, Nat.reduceLeDiff, Nat.reduceAdd, Nat.reduceSub, Nat.reduceMul, eq_self, ne_eq, and_imp, forall_const, reduceCtorEq, am_w, List.map_cons, List.map_nil, List.sum_cons, List.sum_nil, Value.category, Nat.zero_le, Nat.le_refl]
      exact (y.l' (m := 2) (by omega) fun h2 e2 x2 => hQ h2 x2 (by rw [e2, ek, tw_a, List.append_assoc])).2
    | succ d ih =>
      intro j k l Q e y ek hQ
      have F := y.1.f
      have g := y.en hi
      have v := y.ev hi
      have v2 := v.2.1
      have i24 : i < 24 := by omega
      refine vc_101_74 tt _ _ _ _ _ _ ?_
      simp (disch := omega) only [F, g, v2, i24, v.2.2.1 j (by omega), am_hs, qi_lt, qi_le, qi_eq, qi_nn, qi_in, qi_add, qi_l, ql_i, ql_lt, ql_le, ql_eq, ql_add, qc_lt, qc_eq, qc_ge, qc_gt, qc_le, true_and, and_true, and_self, true_or, or_true, false_or, or_false, false_and, and_false, not_true_eq_false, not_false_eq_true, Classical.not_not, true_implies, false_implies, implies_true, exists_eq_left, exists_eq_left', Option.some.injEq, reduceIte, Nat.reduceEqDiff, Nat.reduceLT, Nat.reduceLeDiff, Nat.reduceAdd, Nat.reduceSub, Nat.reduceMul, eq_self, ne_eq, and_imp, forall_const, reduceCtorEq, am_w, List.map_cons, List.map_nil, List.sum_cons, List.sum_nil, Value.category, Nat.zero_le, Nat.le_refl]
      refine ⟨fun z => by omega, fun _ => ⟨by omega, (y.l' (m := 2) (by omega) fun h2 e2 x2 => ih (j + 1) h2 l Q (by omega) x2 ?_ hQ).2⟩⟩
      rw [e2, ek, tw_a, fm_s, List.append_assoc]
  have key2 : ∀ (d i : Nat) (k : am_H) (l : List Int32), d + i = a_n a → WX tt k cd bb wa wt a → k = tw cd wt h (l ++ (R0 i).flatMap (fun i => (fun i => (R0 (e_un (a_E a i))).flatMap (fun k => LB 2 (e_nm (a_E a i) k).toInt64) ++ LB 2 (Int64.ofNat 0)) (oo a i))) →
      am_Ev tt 101 64 [some (.ref (cd 20)), none, some (.int (Int32.ofNat i)), none] [] k (am_pV (fun h' => h' = tw cd wt h (l ++ wNm a)) no_x) := by
    intro d
    induction d with
    | zero =>
      intro i k l e y ek
      have : i = a_n a := by omega
      subst this
      refine vc_101_64 tt _ _ _ _ _ ⟨y.1.f.1, fun _ => ?_, fun z => absurd (by rw [y.2.1]; exact Int32.le_refl _) z⟩
      rw [ek, fm_A wf (g := fun i => (R0 (e_un (a_E a i))).flatMap (fun k => LB 2 (e_nm (a_E a i) k).toInt64) ++ LB 2 (Int64.ofNat 0))]; rfl
    | succ d ih =>
      intro i k l e y ek
      have y2 := y.2.1
      have F := y.1.f
      refine vc_101_64 tt _ _ _ _ _ ?_
      simp (disch := omega) only [F, y2, qi_lt, qi_le, qi_eq, qi_nn, qi_in, qi_add, qi_l, ql_i, ql_lt, ql_le, ql_eq, ql_add, qc_lt, qc_eq, qc_ge, qc_gt, qc_le, true_and, and_true, and_self, true_or, or_true, false_or, or_false, false_and, and_false, not_true_eq_false, not_false_eq_true, Classical.not_not, true_implies, false_implies, implies_true, exists_eq_left, exists_eq_left', Option.some.injEq, reduceIte, Nat.reduceEqDiff, Nat.reduceLT, Nat.reduceLeDiff, Nat.reduceAdd, Nat.reduceSub, Nat.reduceMul, eq_self, ne_eq, and_imp, forall_const, reduceCtorEq, am_w, List.map_cons, List.map_nil, List.sum_cons, List.sum_nil, Value.category, Nat.zero_le, Nat.le_refl]
      refine ⟨fun z => by omega, fun _ => key3 i (by omega) (e_un (a_E a (oo a i))) 0 k _ _ (by omega) y (by rw [ek]; congr 1; exact (List.append_nil _).symm) fun k' y' e' => ih (i + 1) k' l (by omega) y' ?_⟩
      rw [e', fm_s, List.append_assoc]
  have key : ∀ (d i : Nat), d + i = a_n a →
      am_Ev tt 101 4 [some (.ref (cd 20)), some (.int (Int32.ofNat (su (fun j => e_un (a_E a (oo a j)) + 1) (R0 i)))), some (.int (Int32.ofNat i)), none] [] h (am_pV (fun h' => h' = tw cd wt h ([Int32.ofNat 17] ++ (nb (1 + 2 * uns a) ++ ([Int32.ofNat 0] ++ wNm a)))) no_x) := by
    intro d
    induction d with
    | zero =>
      intro i e
      have F := x.1.f
      have : i = a_n a := by omega
      subst this
      have eu : su (fun j => e_un (a_E a (oo a j)) + 1) (R0 (a_n a)) = uns a := su_oo wf (f := fun i => e_un (a_E a i) + 1)
      refine vc_101_4 tt _ _ _ _ _ _ ⟨F.1, fun _ => x.b fun h1 e1 x1 => x1.n (m := 1 + 2 * uns a) (by omega) (by rw [eu, qi_mul, qi_add, qi_l (by omega)]) fun h2 e2 x2 => x2.b fun h3 e3 x3 => ?_, fun z => absurd (by rw [x.2.1]; exact Int32.le_refl _) z⟩
      have := key2 (a_n a) 0 h3 ([Int32.ofNat 17] ++ (nb (1 + 2 * uns a) ++ [Int32.ofNat 0])) (by omega) x3 (by rw [e3, e2, e1, tw_a, tw_a]; congr 1; simp only [List.append_assoc]; rfl)
      simp only [List.append_assoc] at this ⊢
      exact this
    | succ d ih =>
      intro i e
      have F := x.1.f
      have x2 := x.2.1
      have g := x.en (j := i) (by omega)
      have v2 := (x.ev (j := i) (by omega)).2.1
      have i24 : i < 24 := by omega
      refine vc_101_4 tt _ _ _ _ _ _ ?_
      simp (disch := omega) only [F, x2, g, v2, i24, am_hs, qi_lt, qi_le, qi_eq, qi_nn, qi_in, qi_add, qi_l, ql_i, ql_lt, ql_le, ql_eq, ql_add, qc_lt, qc_eq, qc_ge, qc_gt, qc_le, true_and, and_true, and_self, true_or, or_true, false_or, or_false, false_and, and_false, not_true_eq_false, not_false_eq_true, Classical.not_not, true_implies, false_implies, implies_true, exists_eq_left, exists_eq_left', Option.some.injEq, reduceIte, Nat.reduceEqDiff, Nat.reduceLT, Nat.reduceLeDiff, Nat.reduceAdd, Nat.reduceSub, Nat.reduceMul, eq_self, ne_eq, and_imp, forall_const, reduceCtorEq, am_w, List.map_cons, List.map_nil, List.sum_cons, List.sum_nil, Value.category, Nat.zero_le, Nat.le_refl]
      refine ⟨fun z => by omega, fun _ => ?_⟩
      have := ih (i + 1) (by omega)
      rw [su_s] at this
      exact this
  exact vc_101_0 tt _ h _ _ (key (a_n a) 0 (by omega))
end WG
