/-! deps: 19j -/
/-! ===== the class reads: times, attributes ===== -/
/-! 41 yX3_takeWhichHave -/
theorem vc_41_0 (tt : Nat → Nat) (a0 : Nat) (a1 : Int32) (a2 : Int32) (h : am_H) (Q : am_H → Prop) (Qx : String → am_H → Prop) (q :
  (am_K h a0 = 4 ∧ ∃ q1, am_R h 3 0 a0 = some q1 ∧
  (am_K h q1 = 3 ∧
  (am_K h a0 = 4 ∧ ∃ q2, am_R h 3 0 a0 = some q2 ∧
  (am_K h q2 = 3 ∧ ∃ (Q4 : Int32 → am_H → Prop) (X4 : String → am_H → Prop), am_Ct tt 26 [.ref q2] h (am_pI Q4 X4) ∧ (∀ x5 h3, Q4 x5 h3 →
   ((x5 ≤ (Int32.ofNat 1) →
    am_Ev tt 41 30 [some (.ref a0), some (.int a1), some (.int a2), some (.int (am_I h 2 2 q1)), some (.int x5), none] [] h3 (am_pV Q Qx)) ∧
   (¬ (x5 ≤ (Int32.ofNat 1)) →
    (am_K h3 a0 = 4 ∧ ∃ q6, am_R h3 3 0 a0 = some q6 ∧
    (am_K h3 q6 = 3 ∧ ∃ (Q8 : am_H → Prop) (X8 : String → am_H → Prop), am_Ct tt 23 [.ref q6] h3 (am_pV Q8 X8) ∧ (∀ h7, Q8 h7 →
     am_Ev tt 41 30 [some (.ref a0), some (.int a1), some (.int a2), some (.int (am_I h 2 2 q1)), some (.int x5), none] [] h7 (am_pV Q Qx)) ∧ (∀ E9 h7, X8 E9 h7 → Qx E9 h7)))))) ∧ (∀ E10 h3, X4 E10 h3 → Qx E10 h3)))))) :
  am_Ev tt 41 0 [some (.ref a0), some (.int a1), some (.int a2), none, none, none] [] h (am_pV Q Qx) := am_vc 17 [(30, [true, true, true, true, true, false]), (39, [true, true, false, false, false, true]), (69, [false, false, false, false, false, false]), (98, [true, true, false, true, false, true])] q
theorem vc_41_30 (tt : Nat → Nat) (a0 : Nat) (a1 : Int32) (a2 : Int32) (a3 : Int32) (a4 : Int32) (h : am_H) (Q : am_H → Prop) (Qx : String → am_H → Prop) (q :
  ((¬ a4 = (Int32.ofNat 1) →
   (am_K h a0 = 4 ∧ ∃ q1, am_R h 3 0 a0 = some q1 ∧
   (am_K h a0 = 4 ∧ ∃ q2, am_R h 3 1 a0 = some q2 ∧
   (am_K h q1 = 3 ∧ ∃ (Q4 : Int32 → am_H → Prop) (X4 : String → am_H → Prop), am_Ct tt 30 [.ref q1, .ref q2, .int a1] h (am_pI Q4 X4) ∧ (∀ x5 h3, Q4 x5 h3 →
    ((¬ x5 = (Int32.ofNat 0) →
     am_Ev tt 41 98 [some (.ref a0), some (.int a1), none, some (.int a3), none, some (.int x5)] [] h3 (am_pV Q Qx)) ∧
    (¬ (¬ x5 = (Int32.ofNat 0)) →
     (am_K h3 a0 = 4 ∧ ∃ q6, am_R h3 3 0 a0 = some q6 ∧
     (am_K h3 q6 = 3 ∧ ∃ (Q8 : am_H → Prop) (X8 : String → am_H → Prop), am_Ct tt 22 [.ref q6, .int (Int32.ofNat 2), .int a2] h3 (am_pV Q8 X8) ∧ (∀ h7, Q8 h7 →
      am_Ev tt 41 98 [some (.ref a0), some (.int a1), none, some (.int a3), none, some (.int x5)] [] h7 (am_pV Q Qx)) ∧ (∀ E9 h7, X8 E9 h7 → Qx E9 h7)))))) ∧ (∀ E10 h3, X4 E10 h3 → Qx E10 h3))))) ∧
  (¬ (¬ a4 = (Int32.ofNat 1)) →
   am_Ev tt 41 39 [some (.ref a0), some (.int a1), none, none, none, some (.int (Int32.ofNat 0))] [] h (am_pV Q Qx)))) :
  am_Ev tt 41 30 [some (.ref a0), some (.int a1), some (.int a2), some (.int a3), some (.int a4), none] [] h (am_pV Q Qx) := am_vc 20 [(30, [true, true, true, true, true, false]), (39, [true, true, false, false, false, true]), (69, [false, false, false, false, false, false]), (98, [true, true, false, true, false, true])] q
theorem vc_41_39 (tt : Nat → Nat) (a0 : Nat) (a1 : Int32) (a5 : Int32) (h : am_H) (Q : am_H → Prop) (Qx : String → am_H → Prop) (q :
  ((a1 ≤ a5 →
   am_Ev tt 41 69 [none, none, none, none, none, none] [] h (am_pV Q Qx)) ∧
  (¬ (a1 ≤ a5) →
   (am_K h a0 = 4 ∧ ∃ q1, am_R h 3 1 a0 = some q1 ∧
   ((20 < am_K h q1 ∧ (am_K h q1 ≤ 27 ∨ am_K h q1 = 31)) ∧
   (((Int32.ofNat (am_N h q1)) ≤ a5 →
    am_Ev tt 41 69 [none, none, none, none, none, none] [] h (am_pV Q Qx)) ∧
   (¬ ((Int32.ofNat (am_N h q1)) ≤ a5) →
    (am_K h a0 = 4 ∧ ∃ q2, am_R h 3 1 a0 = some q2 ∧
    (vp_in a5 (am_N h q2) ∧ ∃ w3, ((am_K h q2 = 23 ∧ w3 = ((Int32.ofNat 1)).toInt8.toInt32) ∨ (am_K h q2 = 24 ∧ w3 = ((Int32.ofNat 1) &&& 1))) ∧
    am_Ev tt 41 39 [some (.ref a0), some (.int a1), none, none, none, some (.int (a5 + (Int32.ofNat 1)))] [] (am_sA h q2 (a5).toNatClampNeg w3) (am_pV Q Qx)))))))))) :
  am_Ev tt 41 39 [some (.ref a0), some (.int a1), none, none, none, some (.int a5)] [] h (am_pV Q Qx) := am_vc 18 [(30, [true, true, true, true, true, false]), (39, [true, true, false, false, false, true]), (69, [false, false, false, false, false, false]), (98, [true, true, false, true, false, true])] q
theorem vc_41_69 (tt : Nat → Nat)  (h : am_H) (Q : am_H → Prop) (Qx : String → am_H → Prop) (q :
  Q h) :
  am_Ev tt 41 69 [none, none, none, none, none, none] [] h (am_pV Q Qx) := am_vc 3 [(30, [true, true, true, true, true, false]), (39, [true, true, false, false, false, true]), (69, [false, false, false, false, false, false]), (98, [true, true, false, true, false, true])] q
theorem vc_41_98 (tt : Nat → Nat) (a0 : Nat) (a1 : Int32) (a3 : Int32) (a5 : Int32) (h : am_H) (Q : am_H → Prop) (Qx : String → am_H → Prop) (q :
  ((¬ a5 = a1 →
   Q h) ∧
  (¬ (¬ a5 = a1) →
   (am_K h a0 = 4 ∧ ∃ q1, am_R h 3 0 a0 = some q1 ∧
   (am_K h q1 = 3 ∧ ∃ (Q3 : am_H → Prop) (X3 : String → am_H → Prop), am_Ct tt 22 [.ref q1, .int (Int32.ofNat 2), .int a3] h (am_pV Q3 X3) ∧ (∀ h2, Q3 h2 →
    Q h2) ∧ (∀ E4 h2, X3 E4 h2 → Qx E4 h2)))))) :
  am_Ev tt 41 98 [some (.ref a0), some (.int a1), none, some (.int a3), none, some (.int a5)] [] h (am_pV Q Qx) := am_vc 11 [(30, [true, true, true, true, true, false]), (39, [true, true, false, false, false, true]), (69, [false, false, false, false, false, false]), (98, [true, true, false, true, false, true])] q

/-! 40 yX3_takeValues -/
theorem vc_40_0 (tt : Nat → Nat) (a0 : Nat) (a1 : Nat) (a2 : Int32) (a3 : Int32) (h : am_H) (Q : am_H → Prop) (Qx : String → am_H → Prop) (q :
  (am_K h a0 = 4 ∧ ∃ q1, am_R h 3 0 a0 = some q1 ∧
  (am_K h q1 = 3 ∧
  (am_K h a0 = 4 ∧ ∃ q2, am_R h 3 0 a0 = some q2 ∧
  (am_K h q2 = 3 ∧
  (am_K h a0 = 4 ∧ ∃ q3, am_R h 3 0 a0 = some q3 ∧
  (am_K h q3 = 3 ∧ ∃ (Q5 : Int64 → am_H → Prop) (X5 : String → am_H → Prop), am_Ct tt 29 [.ref q3, .long (Int64.ofNat 0), .long (Int64.ofNat 9223372036854775807)] h (am_pL Q5 X5) ∧ (∀ x6 h4, Q5 x6 h4 →
   (am_K h4 a0 = 4 ∧ ∃ q7, am_R h4 3 0 a0 = some q7 ∧
   (am_K h4 q7 = 3 ∧
   (am_K h4 a1 = 1 ∧
   (am_K h4 a0 = 4 ∧ ∃ (Q9 : am_H → Prop) (X9 : String → am_H → Prop), am_Ct tt 41 [.ref a0, .int (am_I h4 0 1 a1), .int ((am_I h 2 2 q1) - (Int32.ofNat 1))] h4 (am_pV Q9 X9) ∧ (∀ h8, Q9 h8 →
    (am_K h8 a0 = 4 ∧ ∃ q10, am_R h8 3 0 a0 = some q10 ∧
    (am_K h8 q10 = 3 ∧ ∃ (Q12 : am_H → Prop) (X12 : String → am_H → Prop), am_Ct tt 27 [.ref q10, .int (Int32.ofNat 0)] h8 (am_pV Q12 X12) ∧ (∀ h11, Q12 h11 →
     am_Ev tt 40 63 [some (.ref a0), some (.ref a1), some (.int a2), some (.int a3), none, some (.int (am_I h 2 2 q2)), some (.long x6), none, some (.int (am_I h4 2 2 q7)), some (.int (Int32.ofNat 0)), none, none] [] h11 (am_pV Q Qx)) ∧ (∀ E13 h11, X12 E13 h11 → Qx E13 h11)))) ∧ (∀ E14 h8, X9 E14 h8 → Qx E14 h8)))))) ∧ (∀ E15 h4, X5 E15 h4 → Qx E15 h4)))))))) :
  am_Ev tt 40 0 [some (.ref a0), some (.ref a1), some (.int a2), some (.int a3), none, none, none, none, none, none, none, none] [] h (am_pV Q Qx) := am_vc 34 [(63, [true, true, true, true, false, true, true, false, true, true, false, false]), (126, [true, true, true, true, false, true, true, false, true, true, false, false])] q
theorem vc_40_63 (tt : Nat → Nat) (a0 : Nat) (a1 : Nat) (a2 : Int32) (a3 : Int32) (a5 : Int32) (a6 : Int64) (a8 : Int32) (a9 : Int32) (h : am_H) (Q : am_H → Prop) (Qx : String → am_H → Prop) (q :
  (am_K h a1 = 1 ∧
  (((am_I h 0 1 a1) ≤ a9 →
   (am_K h a0 = 4 ∧ ∃ q1, am_R h 3 0 a0 = some q1 ∧
   (am_K h q1 = 3 ∧
   (((lg_cmp (((am_I h 2 2 q1) - a8)).toInt64 a6) = (Int32.ofNat 0) →
    Q h) ∧
   (¬ ((lg_cmp (((am_I h 2 2 q1) - a8)).toInt64 a6) = (Int32.ofNat 0)) →
    (am_K h a0 = 4 ∧ ∃ q2, am_R h 3 0 a0 = some q2 ∧
    (am_K h q2 = 3 ∧ ∃ (Q4 : am_H → Prop) (X4 : String → am_H → Prop), am_Ct tt 22 [.ref q2, .int (Int32.ofNat 5), .int a5] h (am_pV Q4 X4) ∧ (∀ h3, Q4 h3 →
     Q h3) ∧ (∀ E5 h3, X4 E5 h3 → Qx E5 h3)))))))) ∧
  (¬ ((am_I h 0 1 a1) ≤ a9) →
   (am_K h a0 = 4 ∧ ∃ q6, am_R h 3 1 a0 = some q6 ∧
   ((am_K h q6 = 23 ∨ am_K h q6 = 24) ∧ vp_in a9 (am_N h q6) ∧
   (((am_A h q6 (a9).toNatClampNeg) = (Int32.ofNat 0) →
    am_Ev tt 40 126 [some (.ref a0), some (.ref a1), some (.int a2), some (.int a3), none, some (.int a5), some (.long a6), none, some (.int a8), some (.int a9), none, none] [] h (am_pV Q Qx)) ∧
   (¬ ((am_A h q6 (a9).toNatClampNeg) = (Int32.ofNat 0)) →
    (am_K h a0 = 4 ∧ ∃ q7, am_R h 3 0 a0 = some q7 ∧
    (am_K h q7 = 3 ∧ ∃ (Q9 : Int64 → am_H → Prop) (X9 : String → am_H → Prop), am_Ct tt 28 [.ref q7, .int a3] h (am_pL Q9 X9) ∧ (∀ x10 h8, Q9 x10 h8 →
     ((¬ a2 = (Int32.ofNat 20) →
      (am_K h8 a1 = 1 ∧ ∃ q11, am_R h8 0 0 a1 = some q11 ∧
      ((am_K h8 q11 = 26 ∨ am_K h8 q11 = 27) ∧ vp_in a9 (am_N h8 q11) ∧ ∃ q12, am_C h8 q11 (a9).toNatClampNeg = some q12 ∧
      (am_K h8 q12 = 5 ∧ ∃ (Q14 : am_H → Prop) (X14 : String → am_H → Prop), am_Ct tt 46 [.ref q12, .int (x10).toInt32] h8 (am_pV Q14 X14) ∧ (∀ h13, Q14 h13 →
       am_Ev tt 40 126 [some (.ref a0), some (.ref a1), some (.int a2), some (.int a3), none, some (.int a5), some (.long a6), none, some (.int a8), some (.int a9), none, none] [] h13 (am_pV Q Qx)) ∧ (∀ E15 h13, X14 E15 h13 → Qx E15 h13))))) ∧
     (¬ (¬ a2 = (Int32.ofNat 20)) →
      (am_K h8 a1 = 1 ∧ ∃ q16, am_R h8 0 0 a1 = some q16 ∧
      ((am_K h8 q16 = 26 ∨ am_K h8 q16 = 27) ∧ vp_in a9 (am_N h8 q16) ∧ ∃ q17, am_C h8 q16 (a9).toNatClampNeg = some q17 ∧
      (am_K h8 q17 = 5 ∧ ∃ (Q19 : am_H → Prop) (X19 : String → am_H → Prop), am_Ct tt 45 [.ref q17, .long x10] h8 (am_pV Q19 X19) ∧ (∀ h18, Q19 h18 →
       am_Ev tt 40 126 [some (.ref a0), some (.ref a1), some (.int a2), some (.int a3), none, some (.int a5), some (.long a6), none, some (.int a8), some (.int a9), none, none] [] h18 (am_pV Q Qx)) ∧ (∀ E20 h18, X19 E20 h18 → Qx E20 h18))))))) ∧ (∀ E21 h8, X9 E21 h8 → Qx E21 h8))))))))))) :
  am_Ev tt 40 63 [some (.ref a0), some (.ref a1), some (.int a2), some (.int a3), none, some (.int a5), some (.long a6), none, some (.int a8), some (.int a9), none, none] [] h (am_pV Q Qx) := am_vc 27 [(63, [true, true, true, true, false, true, true, false, true, true, false, false]), (126, [true, true, true, true, false, true, true, false, true, true, false, false])] q
theorem vc_40_126 (tt : Nat → Nat) (a0 : Nat) (a1 : Nat) (a2 : Int32) (a3 : Int32) (a5 : Int32) (a6 : Int64) (a8 : Int32) (a9 : Int32) (h : am_H) (Q : am_H → Prop) (Qx : String → am_H → Prop) (q :
  am_Ev tt 40 63 [some (.ref a0), some (.ref a1), some (.int a2), some (.int a3), none, some (.int a5), some (.long a6), none, some (.int a8), some (.int (a9 + (Int32.ofNat 1))), none, none] [] h (am_pV Q Qx)) :
  am_Ev tt 40 126 [some (.ref a0), some (.ref a1), some (.int a2), some (.int a3), none, some (.int a5), some (.long a6), none, some (.int a8), some (.int a9), none, none] [] h (am_pV Q Qx) := am_vc 5 [(63, [true, true, true, true, false, true, true, false, true, true, false, false]), (126, [true, true, true, true, false, true, true, false, true, true, false, false])] q

/-! 39 yX3_takeTimesAndAttributes -/
theorem vc_39_0 (tt : Nat → Nat) (a0 : Nat) (a1 : Nat) (h : am_H) (Q : am_H → Prop) (Qx : String → am_H → Prop) (q :
  (am_K h a0 = 4 ∧ ∃ q1, am_R h 3 0 a0 = some q1 ∧
  (am_K h q1 = 3 ∧ ∃ (Q3 : Int32 → am_H → Prop) (X3 : String → am_H → Prop), am_Ct tt 26 [.ref q1] h (am_pI Q3 X3) ∧ (∀ x4 h2, Q3 x4 h2 →
   ((¬ x4 = (Int32.ofNat 20) →
    am_Ev tt 39 31 [some (.ref a0), some (.ref a1), some (.int x4)] [] h2 (am_pV Q Qx)) ∧
   (¬ (¬ x4 = (Int32.ofNat 20)) →
    (am_K h2 a0 = 4 ∧ ∃ (Q6 : am_H → Prop) (X6 : String → am_H → Prop), am_Ct tt 40 [.ref a0, .ref a1, .int (Int32.ofNat 20), .int (Int32.ofNat 8)] h2 (am_pV Q6 X6) ∧ (∀ h5, Q6 h5 →
     (am_K h5 a0 = 4 ∧ ∃ q7, am_R h5 3 0 a0 = some q7 ∧
     (am_K h5 q7 = 3 ∧ ∃ (Q9 : Int32 → am_H → Prop) (X9 : String → am_H → Prop), am_Ct tt 26 [.ref q7] h5 (am_pI Q9 X9) ∧ (∀ x10 h8, Q9 x10 h8 →
      am_Ev tt 39 31 [some (.ref a0), some (.ref a1), some (.int x10)] [] h8 (am_pV Q Qx)) ∧ (∀ E11 h8, X9 E11 h8 → Qx E11 h8)))) ∧ (∀ E12 h5, X6 E12 h5 → Qx E12 h5))))) ∧ (∀ E13 h2, X3 E13 h2 → Qx E13 h2)))) :
  am_Ev tt 39 0 [some (.ref a0), some (.ref a1), none] [] h (am_pV Q Qx) := am_vc 19 [(31, [true, true, true]), (53, [true, false, true])] q
theorem vc_39_31 (tt : Nat → Nat) (a0 : Nat) (a1 : Nat) (a2 : Int32) (h : am_H) (Q : am_H → Prop) (Qx : String → am_H → Prop) (q :
  ((¬ a2 = (Int32.ofNat 21) →
   am_Ev tt 39 53 [some (.ref a0), none, some (.int a2)] [] h (am_pV Q Qx)) ∧
  (¬ (¬ a2 = (Int32.ofNat 21)) →
   (am_K h a0 = 4 ∧ ∃ (Q2 : am_H → Prop) (X2 : String → am_H → Prop), am_Ct tt 40 [.ref a0, .ref a1, .int (Int32.ofNat 21), .int (Int32.ofNat 4)] h (am_pV Q2 X2) ∧ (∀ h1, Q2 h1 →
    (am_K h1 a0 = 4 ∧ ∃ q3, am_R h1 3 0 a0 = some q3 ∧
    (am_K h1 q3 = 3 ∧ ∃ (Q5 : Int32 → am_H → Prop) (X5 : String → am_H → Prop), am_Ct tt 26 [.ref q3] h1 (am_pI Q5 X5) ∧ (∀ x6 h4, Q5 x6 h4 →
     am_Ev tt 39 53 [some (.ref a0), none, some (.int x6)] [] h4 (am_pV Q Qx)) ∧ (∀ E7 h4, X5 E7 h4 → Qx E7 h4)))) ∧ (∀ E8 h1, X2 E8 h1 → Qx E8 h1))))) :
  am_Ev tt 39 31 [some (.ref a0), some (.ref a1), some (.int a2)] [] h (am_pV Q Qx) := am_vc 15 [(31, [true, true, true]), (53, [true, false, true])] q
theorem vc_39_53 (tt : Nat → Nat) (a0 : Nat) (a2 : Int32) (h : am_H) (Q : am_H → Prop) (Qx : String → am_H → Prop) (q :
  ((a2 = (Int32.ofNat 0) →
   Q h) ∧
  (¬ (a2 = (Int32.ofNat 0)) →
   (am_K h a0 = 4 ∧ ∃ q1, am_R h 3 0 a0 = some q1 ∧
   (am_K h q1 = 3 ∧ ∃ (Q3 : am_H → Prop) (X3 : String → am_H → Prop), am_Ct tt 23 [.ref q1] h (am_pV Q3 X3) ∧ (∀ h2, Q3 h2 →
    Q h2) ∧ (∀ E4 h2, X3 E4 h2 → Qx E4 h2)))))) :
  am_Ev tt 39 53 [some (.ref a0), none, some (.int a2)] [] h (am_pV Q Qx) := am_vc 8 [(31, [true, true, true]), (53, [true, false, true])] q

section RE4
variable {tt : Nat → Nat} {h0 h h' h'' : am_H} {cd : Nat → Nat} {bb : Nat → Nat → Nat} {wa wt n p : Nat}
theorem ct_takeWhichHave (x : CX tt h0 cd bb wa wt n h p) {N : Nat} (h1 : 1 ≤ N) (h24 : N ≤ 24) {tp : Nat} {r : Except pe ((Nat → Bool) × Nat)} (hr : r = pWH (FF cd wt h0) n N tp p) :
    am_Ct tt 41 [.ref (cd 33), .int (Int32.ofNat N), .int (Int32.ofNat tp)] h (am_pV (fun h' => ∃ g p', r = .ok (g, p') ∧ p ≤ p' ∧ CX tt h0 cd bb wa wt n h' p' ∧ rf cd X34 Yc h h' ∧ ∀ j, j < N → am_A h' (cd 34) j = b01 (g j)) (ER cd wa h0 r)) := by
  have ci := x.ci
  have f := x.f
  have p5 := x.p5
  unfold pWH at hr
  refine vc_41_0 tt _ _ _ h _ _ ?_
  simp (disch := omega) only [f, qi_lt, qi_le, qi_eq, qi_nn, qi_in, qi_add, qi_l, ql_i, ql_lt, ql_le, ql_eq, ql_add, qc_lt, qc_eq, qc_ge, qc_gt, qc_le, true_and, and_true, and_self, true_or, or_true, false_or, or_false, false_and, and_false, not_true_eq_false, not_false_eq_true, Classical.not_not, true_implies, false_implies, implies_true, exists_eq_left, exists_eq_left', Option.some.injEq, reduceIte, Nat.reduceEqDiff, Nat.reduceLT, Nat.reduceLeDiff, Nat.reduceAdd, Nat.reduceSub, Nat.reduceMul, eq_self, ne_eq, and_imp, forall_const, reduceCtorEq, am_w, List.map_cons, List.map_nil, List.sum_cons, List.sum_nil, Value.category, Nat.zero_le, Nat.le_refl]
  refine (x.b hr fun v h2 hn ev e2 x2 r2 => ?_).2
  have f2 := x2.f
  have fr2 : rf cd X34 Yc h h2 := by rw [e2]; exact rf.mv ⟨rfl, rfl, rfl⟩
  refine ⟨fun c1 => ?_, fun c1 => ?_⟩
  · rw [if_neg (by rw [qi_nlt]; exact c1)] at r2
    refine vc_41_30 tt _ _ _ _ _ _ _ _ ⟨fun c2 => ?_, fun c2 => ?_⟩
    · rw [if_neg c2] at r2
      simp (disch := omega) only [f2, qi_lt, qi_le, qi_eq, qi_nn, qi_in, qi_add, qi_l, ql_i, ql_lt, ql_le, ql_eq, ql_add, qc_lt, qc_eq, qc_ge, qc_gt, qc_le, true_and, and_true, and_self, true_or, or_true, false_or, or_false, false_and, and_false, not_true_eq_false, not_false_eq_true, Classical.not_not, true_implies, false_implies, implies_true, exists_eq_left, exists_eq_left', Option.some.injEq, reduceIte, Nat.reduceEqDiff, Nat.reduceLT, Nat.reduceLeDiff, Nat.reduceAdd, Nat.reduceSub, Nat.reduceMul, eq_self, ne_eq, and_imp, forall_const, reduceCtorEq, am_w, List.map_cons, List.map_nil, List.sum_cons, List.sum_nil, Value.category, Nat.zero_le, Nat.le_refl]
      refine (x2.r h1 h24 r2 fun g q3 h3 eg x3 fr3 g3 r3 => ?_).2
      have f3 := x3.f
      have cl := cn_le g N
      have q3p : p ≤ q3 := by
        unfold tR at eg
        split at eg
        · split at eg
          · cases eg
          · cases eg; omega
        · cases eg
      simp (disch := omega) only [qi_lt, qi_le, qi_eq, qi_nn, qi_in, qi_add, qi_l, ql_i, ql_lt, ql_le, ql_eq, ql_add, qc_lt, qc_eq, qc_ge, qc_gt, qc_le, true_and, and_true, and_self, true_or, or_true, false_or, or_false, false_and, and_false, not_true_eq_false, not_false_eq_true, Classical.not_not, true_implies, false_implies, implies_true, exists_eq_left, exists_eq_left', Option.some.injEq, reduceIte, Nat.reduceEqDiff, Nat.reduceLT, Nat.reduceLeDiff, Nat.reduceAdd, Nat.reduceSub, Nat.reduceMul, eq_self, ne_eq, and_imp, forall_const, reduceCtorEq, am_w, List.map_cons, List.map_nil, List.sum_cons, List.sum_nil, Value.category, Nat.zero_le, Nat.le_refl]
      refine ⟨fun c3 => ?_, fun c3 => ?_⟩
      · rw [if_neg c3] at r3
        refine vc_41_98 tt _ _ _ _ _ _ _ ?_
        simp (disch := omega) only [f3, qi_lt, qi_le, qi_eq, qi_nn, qi_in, qi_add, qi_l, ql_i, ql_lt, ql_le, ql_eq, ql_add, qc_lt, qc_eq, qc_ge, qc_gt, qc_le, true_and, and_true, and_self, true_or, or_true, false_or, or_false, false_and, and_false, not_true_eq_false, not_false_eq_true, Classical.not_not, true_implies, false_implies, implies_true, exists_eq_left, exists_eq_left', Option.some.injEq, reduceIte, Nat.reduceEqDiff, Nat.reduceLT, Nat.reduceLeDiff, Nat.reduceAdd, Nat.reduceSub, Nat.reduceMul, eq_self, ne_eq, and_imp, forall_const, reduceCtorEq, am_w, List.map_cons, List.map_nil, List.sum_cons, List.sum_nil, Value.category, Nat.zero_le, Nat.le_refl]
        refine ⟨fun c4 => ?_, fun c4 => ?_⟩
        · rw [if_neg c4] at r3
          exact ⟨g, q3, r3, q3p, x3, fr2.tr fr3, g3⟩
        · rw [if_pos c4] at r3
          exact ⟨_, _, x3.fa r3, fun _ z => z.elim, fun _ _ z => z⟩
      · rw [if_pos c3] at r3
        simp (disch := omega) only [f3, qi_lt, qi_le, qi_eq, qi_nn, qi_in, qi_add, qi_l, ql_i, ql_lt, ql_le, ql_eq, ql_add, qc_lt, qc_eq, qc_ge, qc_gt, qc_le, true_and, and_true, and_self, true_or, or_true, false_or, or_false, false_and, and_false, not_true_eq_false, not_false_eq_true, Classical.not_not, true_implies, false_implies, implies_true, exists_eq_left, exists_eq_left', Option.some.injEq, reduceIte, Nat.reduceEqDiff, Nat.reduceLT, Nat.reduceLeDiff, Nat.reduceAdd, Nat.reduceSub, Nat.reduceMul, eq_self, ne_eq, and_imp, forall_const, reduceCtorEq, am_w, List.map_cons, List.map_nil, List.sum_cons, List.sum_nil, Value.category, Nat.zero_le, Nat.le_refl]
        exact ⟨_, _, x3.fa r3, fun _ z => z.elim, fun _ _ z => z⟩
    · have c2 := Classical.not_not.1 c2
      rw [if_pos c2] at r2
      have lp : ∀ (d i : Nat) (k : am_H), d + i = N → CX tt h0 cd bb wa wt n k (p + 1) → rf cd X34 Yc h k → (∀ j, j < i → am_A k (cd 34) j = b01 true) → am_Ev tt 41 39 [some (.ref (cd 33)), some (.int (Int32.ofNat N)), none, none, none, some (.int (Int32.ofNat i))] [] k (am_pV (fun h' => ∃ g p', r = .ok (g, p') ∧ p ≤ p' ∧ CX tt h0 cd bb wa wt n h' p' ∧ rf cd X34 Yc h h' ∧ ∀ j, j < N → am_A h' (cd 34) j = b01 (g j)) (ER cd wa h0 r)) := by
        intro d
        induction d with
        | zero =>
          intro i k e y fk hj
          have ei : i = N := by omega
          rw [ei] at hj ⊢
          refine vc_41_39 tt _ _ _ _ _ _ ⟨fun _ => ?_, fun z => absurd (Int32.le_refl _) z⟩
          exact vc_41_69 tt _ _ _ ⟨_, _, r2, by omega, y, fk, hj⟩
        | succ d ih =>
          intro i k e y fk hj
          have F := y.f
          have hi : i < 24 := by omega
          have q1 : ¬ N ≤ i := by omega
          have q2 : ¬ 24 ≤ i := by omega
          refine vc_41_39 tt _ _ _ _ _ _ ?_
          simp (disch := omega) only [F, hi, q1, q2, o_1, qi_lt, qi_le, qi_eq, qi_nn, qi_in, qi_add, qi_l, ql_i, ql_lt, ql_le, ql_eq, ql_add, qc_lt, qc_eq, qc_ge, qc_gt, qc_le, true_and, and_true, and_self, true_or, or_true, false_or, or_false, false_and, and_false, not_true_eq_false, not_false_eq_true, Classical.not_not, true_implies, false_implies, implies_true, exists_eq_left, exists_eq_left', Option.some.injEq, reduceIte, Nat.reduceEqDiff, Nat.reduceLT, Nat.reduceLeDiff, Nat.reduceAdd, Nat.reduceSub, Nat.reduceMul, eq_self, ne_eq, and_imp, forall_const, reduceCtorEq, am_w, List.map_cons, List.map_nil, List.sum_cons, List.sum_nil, Value.category, Nat.zero_le, Nat.le_refl]
          refine ih (i + 1) _ (by omega) (y.on (rf.sA (by unfold XA; omega)) rfl rfl (fun _ _ => rfl)) (fk.tr (rf.sA rfl)) (fun j hj2 => ?_)
          simp only [am_hs, true_and, and_true, and_self, true_or, or_true, false_or, or_false, false_and, and_false, not_true_eq_false, not_false_eq_true, Classical.not_not, true_implies, false_implies, implies_true, exists_eq_left, exists_eq_left', Option.some.injEq, reduceIte, Nat.reduceEqDiff, Nat.reduceLT, Nat.reduceLeDiff, Nat.reduceAdd, Nat.reduceSub, Nat.reduceMul, eq_self, ne_eq, and_imp, forall_const, reduceCtorEq, am_w, List.map_cons, List.map_nil, List.sum_cons, List.sum_nil, Value.category, Nat.zero_le, Nat.le_refl]
          by_cases c : j = i
          · rw [if_pos c]; rfl
          · rw [if_neg c]; exact hj j (by omega)
      exact lp N 0 h2 (by omega) x2 fr2 (fun j hj => absurd hj (Nat.not_lt_zero j))
  · rw [if_pos (by rw [← qi_nle]; exact c1)] at r2
    simp (disch := omega) only [f2, qi_lt, qi_le, qi_eq, qi_nn, qi_in, qi_add, qi_l, ql_i, ql_lt, ql_le, ql_eq, ql_add, qc_lt, qc_eq, qc_ge, qc_gt, qc_le, true_and, and_true, and_self, true_or, or_true, false_or, or_false, false_and, and_false, not_true_eq_false, not_false_eq_true, Classical.not_not, true_implies, false_implies, implies_true, exists_eq_left, exists_eq_left', Option.some.injEq, reduceIte, Nat.reduceEqDiff, Nat.reduceLT, Nat.reduceLeDiff, Nat.reduceAdd, Nat.reduceSub, Nat.reduceMul, eq_self, ne_eq, and_imp, forall_const, reduceCtorEq, am_w, List.map_cons, List.map_nil, List.sum_cons, List.sum_nil, Value.category, Nat.zero_le, Nat.le_refl]
    exact ⟨_, _, x2.fl (by omega) r2, fun _ z => z.elim, fun _ _ z => z⟩
/-- the values that a tag gives -/
def tmX (tg : Nat) (tm : Nat → Option Int64) (v : Nat → Option Int64) : Nat → Option Int64 := if tg = 20 then v else tm
def avX (tg : Nat) (av : Nat → Option Int32) (v : Nat → Option Int64) : Nat → Option Int32 := if tg = 20 then av else fun i => (v i).map Int64.toInt32
theorem ct_takeValues (x : CX tt h0 cd bb wa wt n h p) (hp : 1 ≤ p) {N : Nat} (h1 : 1 ≤ N) (h24 : N ≤ 24) {z : FI} {em fl an : Nat → Bool} {un : Nat → Nat} {nm : Nat → Nat → Int32} {tm : Nat → Option Int64} {av : Nat → Option Int32} {T : Nat → Int32} {tg w : Nat} (ht : tg = 20 ∧ w = 8 ∧ tm = nn6 ∨ tg = 21 ∧ w = 4 ∧ av = nn3) (da : DA cd wa h N (dE z em fl an un nm tm av) T) {r : Except pe ((Nat → Option Int64) × Nat)} (hr : r = bd (tN (FF cd wt h0) n p (l64 0) mx64) fun told q => bd (pWH (FF cd wt h0) n N (p - 1) q) fun g q1 => bd (tX (FF cd wt h0) n q1 0) fun _ q2 => bd (lVa (FF cd wt h0) n w g N 0 q2 (fun _ => none)) fun v q3 => if told = Int64.ofNat (q3 - q) then .ok (v, q3) else .error (5, p)) :
    am_Ct tt 40 [.ref (cd 33), .ref (cd (c_ar (1 - wa))), .int (Int32.ofNat tg), .int (Int32.ofNat w)] h (am_pV (fun h' => ∃ v p', r = .ok (v, p') ∧ CX tt h0 cd bb wa wt n h' p' ∧ rf cd X34 (Ye wa) h h' ∧ DA cd wa h' N (dE z em fl an un nm (tmX tg tm v) (avX tg av v)) T) (ER cd wa h0 r)) := by
  have ci := x.ci
  have f := x.f
  have p5 := x.p5
  have w8 : w ≤ 8 := by rcases ht with ⟨-, e, -⟩ | ⟨-, e, -⟩ <;> omega
  have tg2 : tg = 20 ∨ tg = 21 := by rcases ht with ⟨e, -, -⟩ | ⟨e, -, -⟩ <;> omega
  have key : ∀ (told : Int64) (p1 : Nat) (g : Nat → Bool), p1 ≤ 5000 → ∀ (d i : Nat) (k : am_H) (q : Nat) (v : Nat → Option Int64), d + i = N → p1 ≤ q → CX tt h0 cd bb wa wt n k q → rf cd X34 (Ye wa) h k → (∀ j, j < N → am_A k (cd 34) j = b01 (g j)) → (∀ j, i ≤ j → v j = none) → DA cd wa k N (dE z em fl an un nm (tmX tg tm v) (avX tg av v)) T → r = bd (lVa (FF cd wt h0) n w g d i q v) (fun v q3 => if told = Int64.ofNat (q3 - p1) then .ok (v, q3) else .error (5, p)) →
      am_Ev tt 40 63 [some (.ref (cd 33)), some (.ref (cd (c_ar (1 - wa)))), some (.int (Int32.ofNat tg)), some (.int (Int32.ofNat w)), none, some (.int (Int32.ofNat p)), some (.long told), none, some (.int (Int32.ofNat p1)), some (.int (Int32.ofNat i)), none, none] [] k (am_pV (fun h' => ∃ v p', r = .ok (v, p') ∧ CX tt h0 cd bb wa wt n h' p' ∧ rf cd X34 (Ye wa) h h' ∧ DA cd wa h' N (dE z em fl an un nm (tmX tg tm v) (avX tg av v)) T) (ER cd wa h0 r)) := by
    intro told p1 g hp1 d
    induction d with
    | zero =>
      intro i k q v e hq y fk hg hv dk hr2
      have ei : i = N := by omega
      rw [ei]
      have F := y.f
      have q5 := y.p5
      have G := (y.cl.2.2.2.2.1 (1 - wa) (by omega)).1.1
      have iN := dk.1
      rw [lVa] at hr2
      have hr3 : r = if told = Int64.ofNat (q - p1) then .ok (v, q) else .error (5, p) := hr2
      refine vc_40_63 tt _ _ _ _ _ _ _ _ _ _ _ ?_
      simp (disch := omega) only [G, F, iN, qi_sub, qi_lt, qi_le, qi_eq, qi_nn, qi_in, qi_add, qi_l, ql_i, ql_lt, ql_le, ql_eq, ql_add, qc_lt, qc_eq, qc_ge, qc_gt, qc_le, true_and, and_true, and_self, true_or, or_true, false_or, or_false, false_and, and_false, not_true_eq_false, not_false_eq_true, Classical.not_not, true_implies, false_implies, implies_true, exists_eq_left, exists_eq_left', Option.some.injEq, reduceIte, Nat.reduceEqDiff, Nat.reduceLT, Nat.reduceLeDiff, Nat.reduceAdd, Nat.reduceSub, Nat.reduceMul, eq_self, ne_eq, and_imp, forall_const, reduceCtorEq, am_w, List.map_cons, List.map_nil, List.sum_cons, List.sum_nil, Value.category, Nat.zero_le, Nat.le_refl]
      refine ⟨fun c => ?_, fun c => ?_⟩
      · rw [if_pos c.symm] at hr3
        exact ⟨v, q, hr3, y, fk, dk⟩
      · rw [if_neg (fun z => c z.symm)] at hr3
        exact ⟨_, _, y.fa hr3, fun _ z => z.elim, fun _ _ z => z⟩
    | succ d ih =>
      intro i k q v e hq y fk hg hv dk hr2
      have F := y.f
      have hi : i < 24 := by omega
      have hiN : i < N := by omega
      have G := y.en hi
      have iN := dk.1
      have q1 : ¬ N ≤ i := by omega
      have ek := hg i hiN
      refine vc_40_63 tt _ _ _ _ _ _ _ _ _ _ _ ?_
      simp (disch := omega) only [G, F, iN, q1, hi, ek, b01_z, qi_lt, qi_le, qi_eq, qi_nn, qi_in, qi_add, qi_l, ql_i, ql_lt, ql_le, ql_eq, ql_add, qc_lt, qc_eq, qc_ge, qc_gt, qc_le, true_and, and_true, and_self, true_or, or_true, false_or, or_false, false_and, and_false, not_true_eq_false, not_false_eq_true, Classical.not_not, true_implies, false_implies, implies_true, exists_eq_left, exists_eq_left', Option.some.injEq, reduceIte, Nat.reduceEqDiff, Nat.reduceLT, Nat.reduceLeDiff, Nat.reduceAdd, Nat.reduceSub, Nat.reduceMul, eq_self, ne_eq, and_imp, forall_const, reduceCtorEq, am_w, List.map_cons, List.map_nil, List.sum_cons, List.sum_nil, Value.category, Nat.zero_le, Nat.le_refl]
      refine ⟨fun c => ?_, fun c => ?_⟩
      · rw [lVa, if_neg (by rw [c]; decide)] at hr2
        refine vc_40_126 tt _ _ _ _ _ _ _ _ _ _ _ ?_
        simp (disch := omega) only [qi_lt, qi_le, qi_eq, qi_nn, qi_in, qi_add, qi_l, ql_i, ql_lt, ql_le, ql_eq, ql_add, qc_lt, qc_eq, qc_ge, qc_gt, qc_le, true_and, and_true, and_self, true_or, or_true, false_or, or_false, false_and, and_false, not_true_eq_false, not_false_eq_true, Classical.not_not, true_implies, false_implies, implies_true, exists_eq_left, exists_eq_left', Option.some.injEq, reduceIte, Nat.reduceEqDiff, Nat.reduceLT, Nat.reduceLeDiff, Nat.reduceAdd, Nat.reduceSub, Nat.reduceMul, eq_self, ne_eq, and_imp, forall_const, reduceCtorEq, am_w, List.map_cons, List.map_nil, List.sum_cons, List.sum_nil, Value.category, Nat.zero_le, Nat.le_refl]
        exact ih (i + 1) k q v (by omega) hq y fk hg (fun j hj => hv j (by omega)) dk hr2
      · have c' : g i = true := by cases e : g i with
          | true => rfl
          | false => exact absurd e c
        rw [lVa, if_pos c', bd_as] at hr2
        refine (y.l w8 hr2 fun xv h3 hn ev e3 x3 r3 => ?_).2
        have F3 := x3.f
        have G3 := x3.en hi
        have f3 : rf cd Xn Yc k h3 := by rw [e3]; exact rf.mv ⟨rfl, rfl, rfl⟩
        have dk3 : DA cd wa h3 N (dE z em fl an un nm (tmX tg tm v) (avX tg av v)) T := dk.k ci f3 (by unfold Yc c_ar; omega) (fun i hi z => z) (fun i g hi => by unfold Yc; omega)
        -- on, the value given
        have nx : ∀ (k2 : am_H) (ga gb : Nat), rf cd Xn (fun c g k => c = 4 ∧ (g = ga ∨ g = gb) ∧ k = c_en (1 - wa) i) h3 k2 → am_U k2 = am_U h3 → am_V k2 = am_V h3 → (tg = 20 ∧ ga = 7 ∧ gb = 8 ∧ am_I k2 4 7 (cd (c_en (1 - wa) i)) = b01 true ∧ am_J k2 4 8 (cd (c_en (1 - wa) i)) = xv ∨ tg = 21 ∧ ga = 9 ∧ gb = 10 ∧ am_I k2 4 9 (cd (c_en (1 - wa) i)) = b01 true ∧ am_I k2 4 10 (cd (c_en (1 - wa) i)) = xv.toInt32) → am_Ev tt 40 126 [some (.ref (cd 33)), some (.ref (cd (c_ar (1 - wa)))), some (.int (Int32.ofNat tg)), some (.int (Int32.ofNat w)), none, some (.int (Int32.ofNat p)), some (.long told), none, some (.int (Int32.ofNat p1)), some (.int (Int32.ofNat i)), none, none] [] k2 (am_pV (fun h' => ∃ v p', r = .ok (v, p') ∧ CX tt h0 cd bb wa wt n h' p' ∧ rf cd X34 (Ye wa) h h' ∧ DA cd wa h' N (dE z em fl an un nm (tmX tg tm v) (avX tg av v)) T) (ER cd wa h0 r)) := by
          intro k2 ga gb r2 hU hV hx
          refine vc_40_126 tt _ _ _ _ _ _ _ _ _ _ _ ?_
          simp (disch := omega) only [qi_lt, qi_le, qi_eq, qi_nn, qi_in, qi_add, qi_l, ql_i, ql_lt, ql_le, ql_eq, ql_add, qc_lt, qc_eq, qc_ge, qc_gt, qc_le, true_and, and_true, and_self, true_or, or_true, false_or, or_false, false_and, and_false, not_true_eq_false, not_false_eq_true, Classical.not_not, true_implies, false_implies, implies_true, exists_eq_left, exists_eq_left', Option.some.injEq, reduceIte, Nat.reduceEqDiff, Nat.reduceLT, Nat.reduceLeDiff, Nat.reduceAdd, Nat.reduceSub, Nat.reduceMul, eq_self, ne_eq, and_imp, forall_const, reduceCtorEq, am_w, List.map_cons, List.map_nil, List.sum_cons, List.sum_nil, Value.category, Nat.zero_le, Nat.le_refl]
          have r2e : rf cd X34 (Ye wa) h3 k2 := r2.mo (fun _ z => z.elim) (fun c g k z => by unfold c_en at z; unfold Ye; omega)
          have y2 : CX tt h0 cd bb wa wt n k2 (q + w) := x3.on (r2e.mo (fun k z => X34_A z) (fun c g k z => by unfold Ye at z; unfold YA; omega)) hU hV (fun g hg => r2.i ci (by omega))
          refine ih (i + 1) k2 (q + w) _ (by omega) (by omega) y2 (fk.tr ((f3.mo (fun _ z => z.elim) (fun c g k z => Yc_e z)).tr r2e)) (fun j hj => ?_) (fun j hj => ?_) ⟨?_, fun j hj => ?_⟩ r3
          · rw [r2.a ci (fun z => z), f3.a ci (fun z => z)]; exact hg j hj
          · rw [va_up, if_neg (by omega)]; exact hv j (by omega)
          · rw [r2.i ci (by omega)]; exact dk3.1
          · by_cases cj : j = i
            · rw [cj]
              obtain ⟨v4, v1, vn, v3, v5, v6, v7, v8, v9, v10, v12, v11⟩ := DE.op.1 (dk3.2 i hiN)
              have hgg : (ga = 7 ∧ gb = 8) ∨ (ga = 9 ∧ gb = 10) := by rcases hx with ⟨_, a, b, _⟩ | ⟨_, a, b, _⟩ <;> omega
              refine DE.op.2 ⟨?_, ?_, fun j hj => ?_, ?_, ?_, ?_, ?_, fun t ht => ?_, ?_, fun t ht => ?_, ?_, ?_⟩
              · rw [r2.i ci (by omega)]; exact v4
              · rw [r2.i ci (by omega)]; exact v1
              · rw [r2.a ci (fun z => z)]; exact vn j hj
              · rw [r2.i ci (by omega)]; exact v3
              · rw [r2.i ci (by omega)]; exact v5
              · rw [r2.i ci (by omega)]; exact v6
              · rcases hx with ⟨e1, e2, e3, e4, e5⟩ | ⟨e1, e2, e3, e4, e5⟩
                · rw [e4, tmX, if_pos e1, va_up, if_pos rfl]; rfl
                · rw [r2.i ci (by omega), v7, tmX, tmX, if_neg (by omega), if_neg (by omega)]
              · rcases hx with ⟨e1, e2, e3, e4, e5⟩ | ⟨e1, e2, e3, e4, e5⟩
                · rw [tmX, if_pos e1, va_up, if_pos rfl] at ht
                  rw [e5]; exact Option.some.inj ht
                · rw [tmX, if_neg (by omega)] at ht
                  rw [r2.j ci (by omega)]
                  exact v8 t (by rw [tmX, if_neg (by omega)]; exact ht)
              · rcases hx with ⟨e1, e2, e3, e4, e5⟩ | ⟨e1, e2, e3, e4, e5⟩
                · rw [r2.i ci (by omega), v9, avX, avX, if_pos e1, if_pos e1]
                · rw [e4, avX, if_neg (by omega), va_up, if_pos rfl]; rfl
              · rcases hx with ⟨e1, e2, e3, e4, e5⟩ | ⟨e1, e2, e3, e4, e5⟩
                · rw [avX, if_pos e1] at ht
                  rw [r2.i ci (by omega)]
                  exact v10 t (by rw [avX, if_pos e1]; exact ht)
                · rw [avX, if_neg (by omega), va_up, if_pos rfl] at ht
                  rw [e5]; exact Option.some.inj ht
              · rw [r2.i ci (by omega)]; exact v12
              · rw [r2.i ci (by omega)]; exact v11
            · have := (dk3.2 j hj).k ci r2 (fun z => z) (fun g z => by unfold c_en at z; omega)
              rw [dE_c (un' := un) (nm' := nm) (tm' := tmX tg tm v) (av' := avX tg av v) rfl rfl ?_ ?_]
              · exact this
              · unfold tmX
                split
                · rw [va_up, if_neg cj]
                · rfl
              · unfold avX
                split
                · rfl
                · show (va_up v i (some xv) j).map Int64.toInt32 = _
                  rw [va_up, if_neg cj]
        refine ⟨fun c2 => ?_, fun c2 => ?_⟩
        · simp (disch := omega) only [F3, G3, hi, qi_lt, qi_le, qi_eq, qi_nn, qi_in, qi_add, qi_l, ql_i, ql_lt, ql_le, ql_eq, ql_add, qc_lt, qc_eq, qc_ge, qc_gt, qc_le, true_and, and_true, and_self, true_or, or_true, false_or, or_false, false_and, and_false, not_true_eq_false, not_false_eq_true, Classical.not_not, true_implies, false_implies, implies_true, exists_eq_left, exists_eq_left', Option.some.injEq, reduceIte, Nat.reduceEqDiff, Nat.reduceLT, Nat.reduceLeDiff, Nat.reduceAdd, Nat.reduceSub, Nat.reduceMul, eq_self, ne_eq, and_imp, forall_const, reduceCtorEq, am_w, List.map_cons, List.map_nil, List.sum_cons, List.sum_nil, Value.category, Nat.zero_le, Nat.le_refl]
          refine ⟨_, _, ct_giveAttr G3.2.2.2.2.2.1, fun k2 e2 => ?_, fun _ _ z => z.elim⟩
          refine nx k2 9 10 ?_ (by rw [e2]; rfl) (by rw [e2]; rfl) (Or.inr ⟨by omega, rfl, rfl, ?_, ?_⟩)
          · rw [e2]
            exact (rf.sI (by omega)).tr (rf.sI (by omega))
          · rw [e2]; simp only [am_hs, true_and, and_true, and_self, true_or, or_true, false_or, or_false, false_and, and_false, not_true_eq_false, not_false_eq_true, Classical.not_not, true_implies, false_implies, implies_true, exists_eq_left, exists_eq_left', Option.some.injEq, reduceIte, Nat.reduceEqDiff, Nat.reduceLT, Nat.reduceLeDiff, Nat.reduceAdd, Nat.reduceSub, Nat.reduceMul, eq_self, ne_eq, and_imp, forall_const, reduceCtorEq, am_w, List.map_cons, List.map_nil, List.sum_cons, List.sum_nil, Value.category, Nat.zero_le, Nat.le_refl]; rfl
          · rw [e2]; simp only [am_hs, true_and, and_true, and_self, true_or, or_true, false_or, or_false, false_and, and_false, not_true_eq_false, not_false_eq_true, Classical.not_not, true_implies, false_implies, implies_true, exists_eq_left, exists_eq_left', Option.some.injEq, reduceIte, Nat.reduceEqDiff, Nat.reduceLT, Nat.reduceLeDiff, Nat.reduceAdd, Nat.reduceSub, Nat.reduceMul, eq_self, ne_eq, and_imp, forall_const, reduceCtorEq, am_w, List.map_cons, List.map_nil, List.sum_cons, List.sum_nil, Value.category, Nat.zero_le, Nat.le_refl]
        · simp (disch := omega) only [F3, G3, hi, qi_lt, qi_le, qi_eq, qi_nn, qi_in, qi_add, qi_l, ql_i, ql_lt, ql_le, ql_eq, ql_add, qc_lt, qc_eq, qc_ge, qc_gt, qc_le, true_and, and_true, and_self, true_or, or_true, false_or, or_false, false_and, and_false, not_true_eq_false, not_false_eq_true, Classical.not_not, true_implies, false_implies, implies_true, exists_eq_left, exists_eq_left', Option.some.injEq, reduceIte, Nat.reduceEqDiff, Nat.reduceLT, Nat.reduceLeDiff, Nat.reduceAdd, Nat.reduceSub, Nat.reduceMul, eq_self, ne_eq, and_imp, forall_const, reduceCtorEq, am_w, List.map_cons, List.map_nil, List.sum_cons, List.sum_nil, Value.category, Nat.zero_le, Nat.le_refl]
          refine ⟨_, _, ct_giveTime G3.2.2.2.2.2.1, fun k2 e2 => ?_, fun _ _ z => z.elim⟩
          refine nx k2 7 8 ?_ (by rw [e2]; rfl) (by rw [e2]; rfl) (Or.inl ⟨by omega, rfl, rfl, ?_, ?_⟩)
          · rw [e2]
            exact (rf.sI (by omega)).tr (rf.sJ (by omega))
          · rw [e2]; simp only [am_hs, true_and, and_true, and_self, true_or, or_true, false_or, or_false, false_and, and_false, not_true_eq_false, not_false_eq_true, Classical.not_not, true_implies, false_implies, implies_true, exists_eq_left, exists_eq_left', Option.some.injEq, reduceIte, Nat.reduceEqDiff, Nat.reduceLT, Nat.reduceLeDiff, Nat.reduceAdd, Nat.reduceSub, Nat.reduceMul, eq_self, ne_eq, and_imp, forall_const, reduceCtorEq, am_w, List.map_cons, List.map_nil, List.sum_cons, List.sum_nil, Value.category, Nat.zero_le, Nat.le_refl]; rfl
          · rw [e2]; simp only [am_hs, true_and, and_true, and_self, true_or, or_true, false_or, or_false, false_and, and_false, not_true_eq_false, not_false_eq_true, Classical.not_not, true_implies, false_implies, implies_true, exists_eq_left, exists_eq_left', Option.some.injEq, reduceIte, Nat.reduceEqDiff, Nat.reduceLT, Nat.reduceLeDiff, Nat.reduceAdd, Nat.reduceSub, Nat.reduceMul, eq_self, ne_eq, and_imp, forall_const, reduceCtorEq, am_w, List.map_cons, List.map_nil, List.sum_cons, List.sum_nil, Value.category, Nat.zero_le, Nat.le_refl]
  refine vc_40_0 tt _ _ _ _ h _ _ ?_
  simp (disch := omega) only [f, qi_lt, qi_le, qi_eq, qi_nn, qi_in, qi_add, qi_l, ql_i, ql_lt, ql_le, ql_eq, ql_add, qc_lt, qc_eq, qc_ge, qc_gt, qc_le, true_and, and_true, and_self, true_or, or_true, false_or, or_false, false_and, and_false, not_true_eq_false, not_false_eq_true, Classical.not_not, true_implies, false_implies, implies_true, exists_eq_left, exists_eq_left', Option.some.injEq, reduceIte, Nat.reduceEqDiff, Nat.reduceLT, Nat.reduceLeDiff, Nat.reduceAdd, Nat.reduceSub, Nat.reduceMul, eq_self, ne_eq, and_imp, forall_const, reduceCtorEq, am_w, List.map_cons, List.map_nil, List.sum_cons, List.sum_nil, Value.category, Nat.zero_le, Nat.le_refl]
  refine (x.nu hr fun v q2 h2 ev e2 x2 r2 => ?_).2
  have f2 := x2.f
  have q5 := x2.p5
  have tp := tN_p ev
  have fr2 : rf cd Xn Yc h h2 := by rw [e2]; exact rf.mv ⟨rfl, rfl, rfl⟩
  have da2 : DA cd wa h2 N (dE z em fl an un nm tm av) T := da.k ci fr2 (by unfold Yc c_ar; omega) (fun i hi z => z) (fun i g hi => by unfold Yc; omega)
  have G := (x2.cl.2.2.2.2.1 (1 - wa) (by omega)).1.1
  have iN := da2.1
  simp (disch := omega) only [f2, G, iN, qi_sub, qi_lt, qi_le, qi_eq, qi_nn, qi_in, qi_add, qi_l, ql_i, ql_lt, ql_le, ql_eq, ql_add, qc_lt, qc_eq, qc_ge, qc_gt, qc_le, true_and, and_true, and_self, true_or, or_true, false_or, or_false, false_and, and_false, not_true_eq_false, not_false_eq_true, Classical.not_not, true_implies, false_implies, implies_true, exists_eq_left, exists_eq_left', Option.some.injEq, reduceIte, Nat.reduceEqDiff, Nat.reduceLT, Nat.reduceLeDiff, Nat.reduceAdd, Nat.reduceSub, Nat.reduceMul, eq_self, ne_eq, and_imp, forall_const, reduceCtorEq, am_w, List.map_cons, List.map_nil, List.sum_cons, List.sum_nil, Value.category, Nat.zero_le, Nat.le_refl]
  refine ⟨_, _, ct_takeWhichHave x2 h1 h24 rfl, fun h3 w => ?_, fun E h2 w => w.bd r2⟩
  obtain ⟨g, p', w1, w2, x3, f3, w5⟩ := w
  rw [bd_ok w1] at r2
  have F3 := x3.f
  simp (disch := omega) only [F3, qi_lt, qi_le, qi_eq, qi_nn, qi_in, qi_add, qi_l, ql_i, ql_lt, ql_le, ql_eq, ql_add, qc_lt, qc_eq, qc_ge, qc_gt, qc_le, true_and, and_true, and_self, true_or, or_true, false_or, or_false, false_and, and_false, not_true_eq_false, not_false_eq_true, Classical.not_not, true_implies, false_implies, implies_true, exists_eq_left, exists_eq_left', Option.some.injEq, reduceIte, Nat.reduceEqDiff, Nat.reduceLT, Nat.reduceLeDiff, Nat.reduceAdd, Nat.reduceSub, Nat.reduceMul, eq_self, ne_eq, and_imp, forall_const, reduceCtorEq, am_w, List.map_cons, List.map_nil, List.sum_cons, List.sum_nil, Value.category, Nat.zero_le, Nat.le_refl]
  refine (x3.x r2 fun h4 e4 x4 r4 => ?_).2
  have f4 : rf cd Xn Yc h3 h4 := by rw [e4]; exact rf.mv ⟨rfl, rfl, rfl⟩
  have da3 : DA cd wa h3 N (dE z em fl an un nm tm av) T := da2.k ci f3 (by unfold Yc c_ar; omega) (fun i hi => by unfold X34 c_un; omega) (fun i g hi => by unfold Yc; omega)
  have da4 : DA cd wa h4 N (dE z em fl an un nm tm av) T := da3.k ci f4 (by unfold Yc c_ar; omega) (fun i hi z => z) (fun i g hi => by unfold Yc; omega)
  refine key v q2 g (by omega) N 0 h4 (p' + 1) _ (by omega) (by omega) x4 ?_ (fun j hj => ?_) (fun j _ => rfl) ?_ r4
  · exact (fr2.mo (fun _ z => z.elim) (fun c g k z => Yc_e z)).tr ((f3.mo (fun _ z => z) (fun c g k z => Yc_e z)).tr (f4.mo (fun _ z => z.elim) (fun c g k z => Yc_e z)))
  · rw [f4.a ci (fun z => z)]; exact w5 j hj
  · rcases ht with ⟨e1, e2, e3⟩ | ⟨e1, e2, e3⟩
    · rw [tmX, avX, if_pos e1, if_pos e1]
      rw [e3] at da4
      exact da4
    · rw [tmX, avX, if_neg (by omega), if_neg (by omega)]
      rw [e3] at da4
      exact da4
theorem ct_takeTimesAndAttributes (x : CX tt h0 cd bb wa wt n h p) {N : Nat} (h1 : 1 ≤ N) (h24 : N ≤ 24) {z : FI} {em fl an : Nat → Bool} {un : Nat → Nat} {nm : Nat → Nat → Int32} {T : Nat → Int32} (da : DA cd wa h N (dE z em fl an un nm nn6 nn3) T) {r : Except pe (((Nat → Option Int64) × (Nat → Option Int64)) × Nat)} (hr : r = bd (pVA (FF cd wt h0) n N 20 8 p) fun tm p => bd (pVA (FF cd wt h0) n N 21 4 p) fun av p => bd (tX (FF cd wt h0) n p 0) fun _ p => .ok ((tm, av), p)) :
    am_Ct tt 39 [.ref (cd 33), .ref (cd (c_ar (1 - wa)))] h (am_pV (fun h' => ∃ tm av p', r = .ok ((tm, av), p') ∧ CX tt h0 cd bb wa wt n h' p' ∧ rf cd X34 (Ye wa) h h' ∧ DA cd wa h' N (dE z em fl an un nm tm (fun i => (av i).map Int64.toInt32)) T) (ER cd wa h0 r)) := by
  have ci := x.ci
  have f := x.f
  have p5 := x.p5
  have vb : ∀ {β : Type} (t w q : Nat) (K : (Nat → Option Int64) → Nat → Except pe β) (r : Except pe β), r = bd (pVA (FF cd wt h0) n N t w q) K → ∃ K2 : Int32 → Nat → Except pe β, r = bd (tB (FF cd wt h0) n q) K2 := by
    intro β t w q K r e
    refine ⟨fun _ _ => r, ?_⟩
    by_cases c1 : q < n
    · rw [bd_ok (show tB (FF cd wt h0) n q = .ok (_, _) from by rw [tB, if_pos c1])]
    · rw [e, pVA, if_neg c1, bd_er (show tB (FF cd wt h0) n q = .error (1, n) from by rw [tB, if_neg c1])]; rfl
  have l53 : ∀ (k : am_H) (q : Nat) (a : Int32) (tm av : Nat → Option Int64), CX tt h0 cd bb wa wt n k (q + 1) → q < n → a = FF cd wt h0 q &&& Int32.ofNat 255 → rf cd X34 (Ye wa) h k → DA cd wa k N (dE z em fl an un nm tm (fun i => (av i).map Int64.toInt32)) T → r = bd (tX (FF cd wt h0) n q 0) (fun _ p => .ok ((tm, av), p)) →
      am_Ev tt 39 53 [some (.ref (cd 33)), none, some (.int a)] [] k (am_pV (fun h' => ∃ tm av p', r = .ok ((tm, av), p') ∧ CX tt h0 cd bb wa wt n h' p' ∧ rf cd X34 (Ye wa) h h' ∧ DA cd wa h' N (dE z em fl an un nm tm (fun i => (av i).map Int64.toInt32)) T) (ER cd wa h0 r)) := by
    intro k q a tm av y hq ea fk dk hr2
    have F := y.f
    rw [tX, if_pos hq, ← ea] at hr2
    refine vc_39_53 tt _ _ _ _ _ ⟨fun c1 => ?_, fun c1 => ?_⟩
    · rw [if_pos c1] at hr2
      exact ⟨tm, av, _, hr2, y, fk, dk⟩
    · rw [if_neg c1] at hr2
      simp (disch := omega) only [F, qi_lt, qi_le, qi_eq, qi_nn, qi_in, qi_add, qi_l, ql_i, ql_lt, ql_le, ql_eq, ql_add, qc_lt, qc_eq, qc_ge, qc_gt, qc_le, true_and, and_true, and_self, true_or, or_true, false_or, or_false, false_and, and_false, not_true_eq_false, not_false_eq_true, Classical.not_not, true_implies, false_implies, implies_true, exists_eq_left, exists_eq_left', Option.some.injEq, reduceIte, Nat.reduceEqDiff, Nat.reduceLT, Nat.reduceLeDiff, Nat.reduceAdd, Nat.reduceSub, Nat.reduceMul, eq_self, ne_eq, and_imp, forall_const, reduceCtorEq, am_w, List.map_cons, List.map_nil, List.sum_cons, List.sum_nil, Value.category, Nat.zero_le, Nat.le_refl]
      exact ⟨_, _, y.fl (by omega) hr2, fun _ z => z.elim, fun _ _ z => z⟩
  have l31 : ∀ (k : am_H) (q : Nat) (a : Int32) (tm : Nat → Option Int64), CX tt h0 cd bb wa wt n k (q + 1) → q < n → a = FF cd wt h0 q &&& Int32.ofNat 255 → rf cd X34 (Ye wa) h k → DA cd wa k N (dE z em fl an un nm tm nn3) T → r = bd (pVA (FF cd wt h0) n N 21 4 q) (fun av p => bd (tX (FF cd wt h0) n p 0) fun _ p => .ok ((tm, av), p)) →
      am_Ev tt 39 31 [some (.ref (cd 33)), some (.ref (cd (c_ar (1 - wa)))), some (.int a)] [] k (am_pV (fun h' => ∃ tm av p', r = .ok ((tm, av), p') ∧ CX tt h0 cd bb wa wt n h' p' ∧ rf cd X34 (Ye wa) h h' ∧ DA cd wa h' N (dE z em fl an un nm tm (fun i => (av i).map Int64.toInt32)) T) (ER cd wa h0 r)) := by
    intro k q a tm y hq ea fk dk hr2
    have F := y.f
    refine vc_39_31 tt _ _ _ _ _ _ ?_
    simp (disch := omega) only [F, qi_lt, qi_le, qi_eq, qi_nn, qi_in, qi_add, qi_l, ql_i, ql_lt, ql_le, ql_eq, ql_add, qc_lt, qc_eq, qc_ge, qc_gt, qc_le, true_and, and_true, and_self, true_or, or_true, false_or, or_false, false_and, and_false, not_true_eq_false, not_false_eq_true, Classical.not_not, true_implies, false_implies, implies_true, exists_eq_left, exists_eq_left', Option.some.injEq, reduceIte, Nat.reduceEqDiff, Nat.reduceLT, Nat.reduceLeDiff, Nat.reduceAdd, Nat.reduceSub, Nat.reduceMul, eq_self, ne_eq, and_imp, forall_const, reduceCtorEq, am_w, List.map_cons, List.map_nil, List.sum_cons, List.sum_nil, Value.category, Nat.zero_le, Nat.le_refl]
    refine ⟨fun c1 => ?_, fun c1 => ?_⟩
    · rw [pVA, if_pos hq, ← ea, if_neg c1] at hr2
      exact l53 k q a tm (fun _ => none) y hq ea fk dk hr2
    · rw [pVA, if_pos hq, ← ea, if_pos c1] at hr2
      refine ⟨_, _, ct_takeValues y (by omega) h1 h24 (Or.inr ⟨rfl, rfl, rfl⟩) dk rfl, fun k2 w => ?_, fun E h2 w => w.bd hr2⟩
      obtain ⟨v, p', w1, y2, f2, d2⟩ := w
      rw [show q + 1 - 1 = q from rfl] at w1
      rw [bd_ok w1, tX_B, bd_as] at hr2
      have F2 := y2.f
      simp (disch := omega) only [F2, qi_lt, qi_le, qi_eq, qi_nn, qi_in, qi_add, qi_l, ql_i, ql_lt, ql_le, ql_eq, ql_add, qc_lt, qc_eq, qc_ge, qc_gt, qc_le, true_and, and_true, and_self, true_or, or_true, false_or, or_false, false_and, and_false, not_true_eq_false, not_false_eq_true, Classical.not_not, true_implies, false_implies, implies_true, exists_eq_left, exists_eq_left', Option.some.injEq, reduceIte, Nat.reduceEqDiff, Nat.reduceLT, Nat.reduceLeDiff, Nat.reduceAdd, Nat.reduceSub, Nat.reduceMul, eq_self, ne_eq, and_imp, forall_const, reduceCtorEq, am_w, List.map_cons, List.map_nil, List.sum_cons, List.sum_nil, Value.category, Nat.zero_le, Nat.le_refl]
      refine (y2.b hr2 fun v3 h3 hn3 ev3 e3 x3 r3 => ?_).2
      have f3 : rf cd Xn Yc k2 h3 := by rw [e3]; exact rf.mv ⟨rfl, rfl, rfl⟩
      refine l53 h3 p' v3 tm v x3 hn3 ev3 (fk.tr (f2.tr (f3.mo (fun _ z => z.elim) (fun c g k z => Yc_e z)))) (d2.k ci f3 (by unfold Yc c_ar; omega) (fun i hi z => z) (fun i g hi => by unfold Yc; omega)) ?_
      rw [tX, if_pos hn3, ← ev3]
      exact r3
  obtain ⟨K2, hr2⟩ := vb _ _ _ _ _ hr
  refine vc_39_0 tt _ _ h _ _ ?_
  simp (disch := omega) only [f, qi_lt, qi_le, qi_eq, qi_nn, qi_in, qi_add, qi_l, ql_i, ql_lt, ql_le, ql_eq, ql_add, qc_lt, qc_eq, qc_ge, qc_gt, qc_le, true_and, and_true, and_self, true_or, or_true, false_or, or_false, false_and, and_false, not_true_eq_false, not_false_eq_true, Classical.not_not, true_implies, false_implies, implies_true, exists_eq_left, exists_eq_left', Option.some.injEq, reduceIte, Nat.reduceEqDiff, Nat.reduceLT, Nat.reduceLeDiff, Nat.reduceAdd, Nat.reduceSub, Nat.reduceMul, eq_self, ne_eq, and_imp, forall_const, reduceCtorEq, am_w, List.map_cons, List.map_nil, List.sum_cons, List.sum_nil, Value.category, Nat.zero_le, Nat.le_refl]
  refine (x.b hr2 fun v2 h2 hn2 ev2 e2 x2 r2 => ?_).2
  have f2 := x2.f
  have fr2 : rf cd Xn Yc h h2 := by rw [e2]; exact rf.mv ⟨rfl, rfl, rfl⟩
  have fk2 : rf cd X34 (Ye wa) h h2 := fr2.mo (fun _ z => z.elim) (fun c g k z => Yc_e z)
  have da2 : DA cd wa h2 N (dE z em fl an un nm nn6 nn3) T := da.k ci fr2 (by unfold Yc c_ar; omega) (fun i hi z => z) (fun i g hi => by unfold Yc; omega)
  refine ⟨fun c1 => ?_, fun c1 => ?_⟩
  · rw [pVA, if_pos hn2, ← ev2, if_neg c1] at hr
    exact l31 h2 p v2 _ x2 hn2 ev2 fk2 da2 hr
  · rw [pVA, if_pos hn2, ← ev2, if_pos c1] at hr
    simp (disch := omega) only [f2, qi_lt, qi_le, qi_eq, qi_nn, qi_in, qi_add, qi_l, ql_i, ql_lt, ql_le, ql_eq, ql_add, qc_lt, qc_eq, qc_ge, qc_gt, qc_le, true_and, and_true, and_self, true_or, or_true, false_or, or_false, false_and, and_false, not_true_eq_false, not_false_eq_true, Classical.not_not, true_implies, false_implies, implies_true, exists_eq_left, exists_eq_left', Option.some.injEq, reduceIte, Nat.reduceEqDiff, Nat.reduceLT, Nat.reduceLeDiff, Nat.reduceAdd, Nat.reduceSub, Nat.reduceMul, eq_self, ne_eq, and_imp, forall_const, reduceCtorEq, am_w, List.map_cons, List.map_nil, List.sum_cons, List.sum_nil, Value.category, Nat.zero_le, Nat.le_refl]
    refine ⟨_, _, ct_takeValues x2 (by omega) h1 h24 (Or.inl ⟨rfl, rfl, rfl⟩) da2 rfl, fun k3 w => ?_, fun E h2 w => w.bd hr⟩
    obtain ⟨v, p', w1, y3, f3, d3⟩ := w
    rw [show p + 1 - 1 = p from rfl] at w1
    rw [bd_ok w1] at hr
    obtain ⟨K4, hr4⟩ := vb _ _ _ _ _ hr
    have F3 := y3.f
    simp (disch := omega) only [F3, qi_lt, qi_le, qi_eq, qi_nn, qi_in, qi_add, qi_l, ql_i, ql_lt, ql_le, ql_eq, ql_add, qc_lt, qc_eq, qc_ge, qc_gt, qc_le, true_and, and_true, and_self, true_or, or_true, false_or, or_false, false_and, and_false, not_true_eq_false, not_false_eq_true, Classical.not_not, true_implies, false_implies, implies_true, exists_eq_left, exists_eq_left', Option.some.injEq, reduceIte, Nat.reduceEqDiff, Nat.reduceLT, Nat.reduceLeDiff, Nat.reduceAdd, Nat.reduceSub, Nat.reduceMul, eq_self, ne_eq, and_imp, forall_const, reduceCtorEq, am_w, List.map_cons, List.map_nil, List.sum_cons, List.sum_nil, Value.category, Nat.zero_le, Nat.le_refl]
    refine (y3.b hr4 fun v5 h5 hn5 ev5 e5 x5 r5 => ?_).2
    have f5 : rf cd Xn Yc k3 h5 := by rw [e5]; exact rf.mv ⟨rfl, rfl, rfl⟩
    exact l31 h5 p' v5 v x5 hn5 ev5 (fk2.tr (f3.tr (f5.mo (fun _ z => z.elim) (fun c g k z => Yc_e z)))) (d3.k ci f5 (by unfold Yc c_ar; omega) (fun i hi z => z) (fun i g hi => by unfold Yc; omega)) hr
end RE4
