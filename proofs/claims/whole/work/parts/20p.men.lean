/-! deps: 20o -/
/-! ===== the reference reads: lengths, marks, those without bytes ===== -/
/-! 191 yX10_begins -/
theorem vc_191_0 (tt : Nat → Nat) (a0 : Nat) (h : am_H) (Q : am_H → Prop) (Qx : String → am_H → Prop) (q :
  (am_K h a0 = 11 ∧ ∃ (Q2 : Int64 → am_H → Prop) (X2 : String → am_H → Prop), am_Ct tt 181 [.ref a0] h (am_pL Q2 X2) ∧ (∀ x3 h1, Q2 x3 h1 →
   (am_K h1 a0 = 11 ∧
   (am_K h1 a0 = 11 ∧
   (am_K h1 a0 = 11 ∧
   Q (am_sI (am_sJ h1 10 62 a0 x3) 10 61 a0 (am_I h1 10 51 a0)))))) ∧ (∀ E4 h1, X2 E4 h1 → Qx E4 h1))) :
  am_Ev tt 191 0 [some (.ref a0)] [] h (am_pV Q Qx) := am_vc 11 [] q

/-! 192 yX10_isLong -/
theorem vc_192_0 (tt : Nat → Nat) (a0 : Nat) (a1 : Int64) (h : am_H) (Q : am_H → Prop) (Qx : String → am_H → Prop) (q :
  (am_K h a0 = 11 ∧ ∃ (Q2 : Int32 → am_H → Prop) (X2 : String → am_H → Prop), am_Ct tt 176 [.ref a0] h (am_pI Q2 X2) ∧ (∀ x3 h1, Q2 x3 h1 →
   ((x3 = (Int32.ofNat 0) →
    Q h1) ∧
   (¬ (x3 = (Int32.ofNat 0)) →
    (am_K h1 a0 = 11 ∧
    (((lg_cmp (am_J h1 10 62 a0) a1) = (Int32.ofNat 0) →
     Q h1) ∧
    (¬ ((lg_cmp (am_J h1 10 62 a0) a1) = (Int32.ofNat 0)) →
     (am_K h1 a0 = 11 ∧
     (am_K h1 a0 = 11 ∧ ∃ (Q5 : am_H → Prop) (X5 : String → am_H → Prop), am_Ct tt 177 [.ref a0, .int (Int32.ofNat 5), .int (am_I h1 10 61 a0)] h1 (am_pV Q5 X5) ∧ (∀ h4, Q5 h4 →
      Q h4) ∧ (∀ E6 h4, X5 E6 h4 → Qx E6 h4))))))))) ∧ (∀ E7 h1, X2 E7 h1 → Qx E7 h1))) :
  am_Ev tt 192 0 [some (.ref a0), some (.long a1), none] [] h (am_pV Q Qx) := am_vc 16 [] q

/-! 193 yX10_marks -/
theorem vc_193_0 (tt : Nat → Nat) (a0 : Nat) (a1 : Int32) (a2 : Int32) (h : am_H) (Q : Int32 → am_H → Prop) (Qx : String → am_H → Prop) (q :
  am_Ev tt 193 2 [some (.ref a0), some (.int a1), some (.int a2), some (.int (Int32.ofNat 0))] [] h (am_pI Q Qx)) :
  am_Ev tt 193 0 [some (.ref a0), some (.int a1), some (.int a2), none] [] h (am_pI Q Qx) := am_vc 5 [(2, [true, true, true, true]), (33, [false, false, false, false]), (35, [true, true, true, false])] q
theorem vc_193_2 (tt : Nat → Nat) (a0 : Nat) (a1 : Int32) (a2 : Int32) (a3 : Int32) (h : am_H) (Q : Int32 → am_H → Prop) (Qx : String → am_H → Prop) (q :
  (((Int32.ofNat 24) ≤ a3 →
   ((a2 = (Int32.ofNat 0) →
    am_Ev tt 193 33 [none, none, none, none] [] h (am_pI Q Qx)) ∧
   (¬ (a2 = (Int32.ofNat 0)) →
    (am_K h a0 = 11 ∧ ∃ (Q2 : Int32 → am_H → Prop) (X2 : String → am_H → Prop), am_Ct tt 178 [.ref a0] h (am_pI Q2 X2) ∧ (∀ x3 h1, Q2 x3 h1 →
     ((x3 = a1 →
      am_Ev tt 193 35 [some (.ref a0), some (.int a1), some (.int a2), none] [] h1 (am_pI Q Qx)) ∧
     (¬ (x3 = a1) →
      am_Ev tt 193 33 [none, none, none, none] [] h1 (am_pI Q Qx)))) ∧ (∀ E4 h1, X2 E4 h1 → Qx E4 h1))))) ∧
  (¬ ((Int32.ofNat 24) ≤ a3) →
   (am_K h a0 = 11 ∧ ∃ q5, am_R h 10 26 a0 = some q5 ∧
   (vp_in a3 (am_N h q5) ∧ ∃ w6, ((am_K h q5 = 23 ∧ w6 = ((Int32.ofNat 0)).toInt8.toInt32) ∨ (am_K h q5 = 24 ∧ w6 = ((Int32.ofNat 0) &&& 1))) ∧
   am_Ev tt 193 2 [some (.ref a0), some (.int a1), some (.int a2), some (.int (a3 + (Int32.ofNat 1)))] [] (am_sA h q5 (a3).toNatClampNeg w6) (am_pI Q Qx)))))) :
  am_Ev tt 193 2 [some (.ref a0), some (.int a1), some (.int a2), some (.int a3)] [] h (am_pI Q Qx) := am_vc 13 [(2, [true, true, true, true]), (33, [false, false, false, false]), (35, [true, true, true, false])] q
theorem vc_193_33 (tt : Nat → Nat)  (h : am_H) (Q : Int32 → am_H → Prop) (Qx : String → am_H → Prop) (q :
  (((Int32.ofNat 0) = (Int32.ofNat 0) ∨ (Int32.ofNat 0) = (Int32.ofNat 1)) ∧ Q (Int32.ofNat 0) h)) :
  am_Ev tt 193 33 [none, none, none, none] [] h (am_pI Q Qx) := am_vc 4 [(2, [true, true, true, true]), (33, [false, false, false, false]), (35, [true, true, true, false])] q
theorem vc_193_35 (tt : Nat → Nat) (a0 : Nat) (a1 : Int32) (a2 : Int32) (h : am_H) (Q : Int32 → am_H → Prop) (Qx : String → am_H → Prop) (q :
  (am_K h a0 = 11 ∧
  (am_K h a0 = 11 ∧ ∃ (Q2 : am_H → Prop) (X2 : String → am_H → Prop), am_Ct tt 180 [.ref a0, .int a1] h (am_pV Q2 X2) ∧ (∀ h1, Q2 h1 →
   (am_K h1 a0 = 11 ∧ ∃ (Q4 : am_H → Prop) (X4 : String → am_H → Prop), am_Ct tt 191 [.ref a0] h1 (am_pV Q4 X4) ∧ (∀ h3, Q4 h3 →
    (¬ (Int32.ofNat 8) = (Int32.ofNat 0) ∧
    (am_K h3 a0 = 11 ∧ ∃ (Q6 : am_H → Prop) (X6 : String → am_H → Prop), am_Ct tt 192 [.ref a0, .long (((a2 + (Int32.ofNat 7)) / (Int32.ofNat 8))).toInt64] h3 (am_pV Q6 X6) ∧ (∀ h5, Q6 h5 →
     (am_K h5 a0 = 11 ∧ ∃ (Q8 : am_H → Prop) (X8 : String → am_H → Prop), am_Ct tt 184 [.ref a0, .int a2] h5 (am_pV Q8 X8) ∧ (∀ h7, Q8 h7 →
      (am_K h7 a0 = 11 ∧ ∃ (Q10 : Int32 → am_H → Prop) (X10 : String → am_H → Prop), am_Ct tt 176 [.ref a0] h7 (am_pI Q10 X10) ∧ (∀ x11 h9, Q10 x11 h9 →
       ((x11 = (Int32.ofNat 0) →
        (((Int32.ofNat 1) = (Int32.ofNat 0) ∨ (Int32.ofNat 1) = (Int32.ofNat 1)) ∧ Q (Int32.ofNat 1) h9)) ∧
       (¬ (x11 = (Int32.ofNat 0)) →
        (am_K h9 a0 = 11 ∧ ∃ (Q13 : Int32 → am_H → Prop) (X13 : String → am_H → Prop), am_Ct tt 163 [.ref a0, .int a2] h9 (am_pI Q13 X13) ∧ (∀ x14 h12, Q13 x14 h12 →
         ((¬ x14 = (Int32.ofNat 0) →
          (((Int32.ofNat 1) = (Int32.ofNat 0) ∨ (Int32.ofNat 1) = (Int32.ofNat 1)) ∧ Q (Int32.ofNat 1) h12)) ∧
         (¬ (¬ x14 = (Int32.ofNat 0)) →
          (am_K h12 a0 = 11 ∧ ∃ (Q16 : am_H → Prop) (X16 : String → am_H → Prop), am_Ct tt 177 [.ref a0, .int (Int32.ofNat 2), .int (am_I h 10 27 a0)] h12 (am_pV Q16 X16) ∧ (∀ h15, Q16 h15 →
           (((Int32.ofNat 1) = (Int32.ofNat 0) ∨ (Int32.ofNat 1) = (Int32.ofNat 1)) ∧ Q (Int32.ofNat 1) h15)) ∧ (∀ E17 h15, X16 E17 h15 → Qx E17 h15))))) ∧ (∀ E18 h12, X13 E18 h12 → Qx E18 h12))))) ∧ (∀ E19 h9, X10 E19 h9 → Qx E19 h9))) ∧ (∀ E20 h7, X8 E20 h7 → Qx E20 h7))) ∧ (∀ E21 h5, X6 E21 h5 → Qx E21 h5)))) ∧ (∀ E22 h3, X4 E22 h3 → Qx E22 h3))) ∧ (∀ E23 h1, X2 E23 h1 → Qx E23 h1)))) :
  am_Ev tt 193 35 [some (.ref a0), some (.int a1), some (.int a2), none] [] h (am_pI Q Qx) := am_vc 34 [(2, [true, true, true, true]), (33, [false, false, false, false]), (35, [true, true, true, false])] q

/-! 194 yX10_empties -/
theorem vc_194_0 (tt : Nat → Nat) (a0 : Nat) (h : am_H) (Q : am_H → Prop) (Qx : String → am_H → Prop) (q :
  am_Ev tt 194 2 [some (.ref a0), some (.int (Int32.ofNat 0))] [] h (am_pV Q Qx)) :
  am_Ev tt 194 0 [some (.ref a0), none] [] h (am_pV Q Qx) := am_vc 5 [(2, [true, true]), (35, [true, false]), (68, [true, false]), (106, [true, true])] q
theorem vc_194_2 (tt : Nat → Nat) (a0 : Nat) (a1 : Int32) (h : am_H) (Q : am_H → Prop) (Qx : String → am_H → Prop) (q :
  (am_K h a0 = 11 ∧
  (((am_I h 10 41 a0) ≤ a1 →
   (am_K h a0 = 11 ∧
   (am_K h a0 = 11 ∧
   ((¬ (am_I h 10 41 a0) = (am_I h 10 29 a0) →
    am_Ev tt 194 35 [some (.ref a0), none] [] h (am_pV Q Qx)) ∧
   (¬ (¬ (am_I h 10 41 a0) = (am_I h 10 29 a0)) →
    Q h))))) ∧
  (¬ ((am_I h 10 41 a0) ≤ a1) →
   (am_K h a0 = 11 ∧ ∃ q1, am_R h 10 42 a0 = some q1 ∧
   (vp_in a1 (am_N h q1) ∧ ∃ w2, ((am_K h q1 = 23 ∧ w2 = ((Int32.ofNat 0)).toInt8.toInt32) ∨ (am_K h q1 = 24 ∧ w2 = ((Int32.ofNat 0) &&& 1))) ∧
   am_Ev tt 194 2 [some (.ref a0), some (.int (a1 + (Int32.ofNat 1)))] [] (am_sA h q1 (a1).toNatClampNeg w2) (am_pV Q Qx))))))) :
  am_Ev tt 194 2 [some (.ref a0), some (.int a1)] [] h (am_pV Q Qx) := am_vc 14 [(2, [true, true]), (35, [true, false]), (68, [true, false]), (106, [true, true])] q
theorem vc_194_35 (tt : Nat → Nat) (a0 : Nat) (h : am_H) (Q : am_H → Prop) (Qx : String → am_H → Prop) (q :
  (am_K h a0 = 11 ∧ ∃ (Q2 : am_H → Prop) (X2 : String → am_H → Prop), am_Ct tt 180 [.ref a0, .int (Int32.ofNat 14)] h (am_pV Q2 X2) ∧ (∀ h1, Q2 h1 →
   (am_K h1 a0 = 11 ∧ ∃ (Q4 : am_H → Prop) (X4 : String → am_H → Prop), am_Ct tt 191 [.ref a0] h1 (am_pV Q4 X4) ∧ (∀ h3, Q4 h3 →
    (am_K h3 a0 = 11 ∧
    (¬ (Int32.ofNat 8) = (Int32.ofNat 0) ∧
    (am_K h3 a0 = 11 ∧ ∃ (Q6 : am_H → Prop) (X6 : String → am_H → Prop), am_Ct tt 192 [.ref a0, .long ((((am_I h3 10 41 a0) + (Int32.ofNat 7)) / (Int32.ofNat 8))).toInt64] h3 (am_pV Q6 X6) ∧ (∀ h5, Q6 h5 →
     (am_K h5 a0 = 11 ∧
     (am_K h5 a0 = 11 ∧ ∃ (Q8 : am_H → Prop) (X8 : String → am_H → Prop), am_Ct tt 184 [.ref a0, .int (am_I h5 10 41 a0)] h5 (am_pV Q8 X8) ∧ (∀ h7, Q8 h7 →
      am_Ev tt 194 68 [some (.ref a0), none] [] h7 (am_pV Q Qx)) ∧ (∀ E9 h7, X8 E9 h7 → Qx E9 h7)))) ∧ (∀ E10 h5, X6 E10 h5 → Qx E10 h5))))) ∧ (∀ E11 h3, X4 E11 h3 → Qx E11 h3))) ∧ (∀ E12 h1, X2 E12 h1 → Qx E12 h1))) :
  am_Ev tt 194 35 [some (.ref a0), none] [] h (am_pV Q Qx) := am_vc 21 [(2, [true, true]), (35, [true, false]), (68, [true, false]), (106, [true, true])] q
theorem vc_194_68 (tt : Nat → Nat) (a0 : Nat) (h : am_H) (Q : am_H → Prop) (Qx : String → am_H → Prop) (q :
  (am_K h a0 = 11 ∧ ∃ (Q2 : Int32 → am_H → Prop) (X2 : String → am_H → Prop), am_Ct tt 176 [.ref a0] h (am_pI Q2 X2) ∧ (∀ x3 h1, Q2 x3 h1 →
   ((x3 = (Int32.ofNat 0) →
    am_Ev tt 194 106 [some (.ref a0), some (.int (Int32.ofNat 0))] [] h1 (am_pV Q Qx)) ∧
   (¬ (x3 = (Int32.ofNat 0)) →
    (am_K h1 a0 = 11 ∧
    (am_K h1 a0 = 11 ∧ ∃ (Q5 : Int32 → am_H → Prop) (X5 : String → am_H → Prop), am_Ct tt 163 [.ref a0, .int (am_I h1 10 41 a0)] h1 (am_pI Q5 X5) ∧ (∀ x6 h4, Q5 x6 h4 →
     (am_K h4 a0 = 11 ∧
     (am_K h4 a0 = 11 ∧
     ((x6 = ((am_I h4 10 41 a0) - (am_I h4 10 29 a0)) →
      am_Ev tt 194 106 [some (.ref a0), some (.int (Int32.ofNat 0))] [] h4 (am_pV Q Qx)) ∧
     (¬ (x6 = ((am_I h4 10 41 a0) - (am_I h4 10 29 a0))) →
      (am_K h4 a0 = 11 ∧
      (am_K h4 a0 = 11 ∧ ∃ (Q8 : am_H → Prop) (X8 : String → am_H → Prop), am_Ct tt 177 [.ref a0, .int (Int32.ofNat 5), .int (am_I h4 10 61 a0)] h4 (am_pV Q8 X8) ∧ (∀ h7, Q8 h7 →
       am_Ev tt 194 106 [some (.ref a0), some (.int (Int32.ofNat 0))] [] h7 (am_pV Q Qx)) ∧ (∀ E9 h7, X8 E9 h7 → Qx E9 h7)))))))) ∧ (∀ E10 h4, X5 E10 h4 → Qx E10 h4)))))) ∧ (∀ E11 h1, X2 E11 h1 → Qx E11 h1))) :
  am_Ev tt 194 68 [some (.ref a0), none] [] h (am_pV Q Qx) := am_vc 23 [(2, [true, true]), (35, [true, false]), (68, [true, false]), (106, [true, true])] q
theorem vc_194_106 (tt : Nat → Nat) (a0 : Nat) (a1 : Int32) (h : am_H) (Q : am_H → Prop) (Qx : String → am_H → Prop) (q :
  (am_K h a0 = 11 ∧
  (((am_I h 10 41 a0) ≤ a1 →
   Q h) ∧
  (¬ ((am_I h 10 41 a0) ≤ a1) →
   (am_K h a0 = 11 ∧ ∃ q1, am_R h 10 42 a0 = some q1 ∧
   (am_K h a0 = 11 ∧ ∃ q2, am_R h 10 26 a0 = some q2 ∧
   ((am_K h q2 = 23 ∨ am_K h q2 = 24) ∧ vp_in a1 (am_N h q2) ∧
   (vp_in a1 (am_N h q1) ∧ ∃ w3, ((am_K h q1 = 23 ∧ w3 = ((am_A h q2 (a1).toNatClampNeg)).toInt8.toInt32) ∨ (am_K h q1 = 24 ∧ w3 = ((am_A h q2 (a1).toNatClampNeg) &&& 1))) ∧
   am_Ev tt 194 106 [some (.ref a0), some (.int (a1 + (Int32.ofNat 1)))] [] (am_sA h q1 (a1).toNatClampNeg w3) (am_pV Q Qx))))))))) :
  am_Ev tt 194 106 [some (.ref a0), some (.int a1)] [] h (am_pV Q Qx) := am_vc 17 [(2, [true, true]), (35, [true, false]), (68, [true, false]), (106, [true, true])] q

/-! 195 yX10_spread -/
theorem vc_195_0 (tt : Nat → Nat) (a0 : Nat) (a1 : Nat) (h : am_H) (Q : am_H → Prop) (Qx : String → am_H → Prop) (q :
  am_Ev tt 195 4 [some (.ref a0), some (.ref a1), some (.int (Int32.ofNat 0)), some (.int (Int32.ofNat 0))] [] h (am_pV Q Qx)) :
  am_Ev tt 195 0 [some (.ref a0), some (.ref a1), none, none] [] h (am_pV Q Qx) := am_vc 7 [(4, [true, true, true, true])] q
theorem vc_195_4 (tt : Nat → Nat) (a0 : Nat) (a1 : Nat) (a2 : Int32) (a3 : Int32) (h : am_H) (Q : am_H → Prop) (Qx : String → am_H → Prop) (q :
  (am_K h a0 = 11 ∧
  (((am_I h 10 41 a0) ≤ a3 →
   Q h) ∧
  (¬ ((am_I h 10 41 a0) ≤ a3) →
   (am_K h a0 = 11 ∧ ∃ q1, am_R h 10 42 a0 = some q1 ∧
   ((am_K h q1 = 23 ∨ am_K h q1 = 24) ∧ vp_in a3 (am_N h q1) ∧
   (((am_A h q1 (a3).toNatClampNeg) = (Int32.ofNat 0) →
    (vp_in a3 (am_N h a1) ∧ ∃ w2, ((am_K h a1 = 23 ∧ w2 = ((Int32.ofNat 0)).toInt8.toInt32) ∨ (am_K h a1 = 24 ∧ w2 = ((Int32.ofNat 0) &&& 1))) ∧
    (am_K h a0 = 11 ∧ ∃ q3, am_R h 10 42 a0 = some q3 ∧
    ((am_K h q3 = 23 ∨ am_K h q3 = 24) ∧ vp_in a3 (am_N h q3) ∧
    (((am_A (am_sA h a1 (a3).toNatClampNeg w2) q3 (a3).toNatClampNeg) = (Int32.ofNat 0) →
     am_Ev tt 195 4 [some (.ref a0), some (.ref a1), some (.int (a2 + (Int32.ofNat 0))), some (.int (a3 + (Int32.ofNat 1)))] [] (am_sA h a1 (a3).toNatClampNeg w2) (am_pV Q Qx)) ∧
    (¬ ((am_A (am_sA h a1 (a3).toNatClampNeg w2) q3 (a3).toNatClampNeg) = (Int32.ofNat 0)) →
     am_Ev tt 195 4 [some (.ref a0), some (.ref a1), some (.int (a2 + (Int32.ofNat 1))), some (.int (a3 + (Int32.ofNat 1)))] [] (am_sA h a1 (a3).toNatClampNeg w2) (am_pV Q Qx))))))) ∧
   (¬ ((am_A h q1 (a3).toNatClampNeg) = (Int32.ofNat 0)) →
    (am_K h a0 = 11 ∧ ∃ q4, am_R h 10 26 a0 = some q4 ∧
    ((am_K h q4 = 23 ∨ am_K h q4 = 24) ∧ vp_in a2 (am_N h q4) ∧
    (((am_A h q4 (a2).toNatClampNeg) = (Int32.ofNat 0) →
     (vp_in a3 (am_N h a1) ∧ ∃ w5, ((am_K h a1 = 23 ∧ w5 = ((Int32.ofNat 0)).toInt8.toInt32) ∨ (am_K h a1 = 24 ∧ w5 = ((Int32.ofNat 0) &&& 1))) ∧
     (am_K h a0 = 11 ∧ ∃ q6, am_R h 10 42 a0 = some q6 ∧
     ((am_K h q6 = 23 ∨ am_K h q6 = 24) ∧ vp_in a3 (am_N h q6) ∧
     (((am_A (am_sA h a1 (a3).toNatClampNeg w5) q6 (a3).toNatClampNeg) = (Int32.ofNat 0) →
      am_Ev tt 195 4 [some (.ref a0), some (.ref a1), some (.int (a2 + (Int32.ofNat 0))), some (.int (a3 + (Int32.ofNat 1)))] [] (am_sA h a1 (a3).toNatClampNeg w5) (am_pV Q Qx)) ∧
     (¬ ((am_A (am_sA h a1 (a3).toNatClampNeg w5) q6 (a3).toNatClampNeg) = (Int32.ofNat 0)) →
      am_Ev tt 195 4 [some (.ref a0), some (.ref a1), some (.int (a2 + (Int32.ofNat 1))), some (.int (a3 + (Int32.ofNat 1)))] [] (am_sA h a1 (a3).toNatClampNeg w5) (am_pV Q Qx))))))) ∧
    (¬ ((am_A h q4 (a2).toNatClampNeg) = (Int32.ofNat 0)) →
     (vp_in a3 (am_N h a1) ∧ ∃ w7, ((am_K h a1 = 23 ∧ w7 = ((Int32.ofNat 1)).toInt8.toInt32) ∨ (am_K h a1 = 24 ∧ w7 = ((Int32.ofNat 1) &&& 1))) ∧
     (am_K h a0 = 11 ∧ ∃ q8, am_R h 10 42 a0 = some q8 ∧
     ((am_K h q8 = 23 ∨ am_K h q8 = 24) ∧ vp_in a3 (am_N h q8) ∧
     (((am_A (am_sA h a1 (a3).toNatClampNeg w7) q8 (a3).toNatClampNeg) = (Int32.ofNat 0) →
      am_Ev tt 195 4 [some (.ref a0), some (.ref a1), some (.int (a2 + (Int32.ofNat 0))), some (.int (a3 + (Int32.ofNat 1)))] [] (am_sA h a1 (a3).toNatClampNeg w7) (am_pV Q Qx)) ∧
     (¬ ((am_A (am_sA h a1 (a3).toNatClampNeg w7) q8 (a3).toNatClampNeg) = (Int32.ofNat 0)) →
      am_Ev tt 195 4 [some (.ref a0), some (.ref a1), some (.int (a2 + (Int32.ofNat 1))), some (.int (a3 + (Int32.ofNat 1)))] [] (am_sA h a1 (a3).toNatClampNeg w7) (am_pV Q Qx)))))))))))))))))) :
  am_Ev tt 195 4 [some (.ref a0), some (.ref a1), some (.int a2), some (.int a3)] [] h (am_pV Q Qx) := am_vc 34 [(4, [true, true, true, true])] q

section MEN
variable {tt : Nat → Nat} {F : Fn} {n m : Nat} {ad : Nat → Nat} {h h' h'' k k' : am_H} {s : Ms} {X Y X' Y' : Nat → Prop}
abbrev Ybg (f : Nat) : Prop := f = 20 ∨ f = 27 ∨ f = 28 ∨ f = 51 ∨ f = 61 ∨ f = 62
theorem mg.sJ {f : Nat} {v : Int64} (hf : Y f) : mg m ad X Y h (am_sJ h 10 f m v) := ⟨mfr.sJ, fun _ _ => ⟨rfl, rfl⟩, fun g z => ⟨rfl, by simp only [am_hs]; rw [if_neg (fun w => z (by rw [w.2.1]; exact hf))]⟩⟩
theorem ct_rbegins (y : MY F n h m ad s) {r : Except pe (Int64 × Nat)} (hr : r = bs s (nN F n)) : am_Ct tt 191 [.ref m] h (am_pV (fun k => MY F n k m ad (st r) ∧ mg m ad Xn Ybg h k ∧ (∀ v p', r = .ok (v, p') → am_J k 10 62 m = v) ∧ ∀ p, s = .ok p → am_I k 10 61 m = Int32.ofNat p) no_x) := by
  refine vc_191_0 tt _ h _ _ ⟨y.1.1, _, _, ct_rnumber y hr, fun x k e => ?_, fun _ _ z => z.elim⟩
  obtain ⟨y2, g2, v2, e51⟩ := e
  have kk := y2.1.1
  refine ⟨kk, kk, kk, ?_⟩
  have s1 : mg m ad Xn (fun f => f = 61 ∨ f = 62) k (am_sJ k 10 62 m x) := mg.sJ (Or.inr rfl)
  have s2 : mg m ad Xn (fun f => f = 61 ∨ f = 62) (am_sJ k 10 62 m x) (am_sI (am_sJ k 10 62 m x) 10 61 m (am_I k 10 51 m)) := mg.sI (Or.inl rfl)
  have s12 := s1.tr s2
  refine ⟨y2.on s12 (fun z => z) (by omega) (by omega) (by omega) (by omega), (g2.mo (fun _ z => z) (fun _ z => by omega)).tr (s12.mo (fun _ z => z) (fun _ z => by omega)), fun v p' z => ?_, fun p z => ?_⟩
  · simp only [am_hs, true_and, and_true, and_self, true_or, or_true, false_or, or_false, false_and, and_false, not_true_eq_false, not_false_eq_true, Classical.not_not, true_implies, false_implies, implies_true, exists_eq_left, exists_eq_left', Option.some.injEq, reduceIte, Nat.reduceEqDiff, Nat.reduceLT, Nat.reduceLeDiff, Nat.reduceAdd, Nat.reduceSub, Nat.reduceMul, eq_self, ne_eq, and_imp, forall_const, reduceCtorEq, am_w, List.map_cons, List.map_nil, List.sum_cons, List.sum_nil, Value.category, Nat.zero_le, Nat.le_refl]
    exact v2 v p' z
  · simp only [am_hs, true_and, and_true, and_self, true_or, or_true, false_or, or_false, false_and, and_false, not_true_eq_false, not_false_eq_true, Classical.not_not, true_implies, false_implies, implies_true, exists_eq_left, exists_eq_left', Option.some.injEq, reduceIte, Nat.reduceEqDiff, Nat.reduceLT, Nat.reduceLeDiff, Nat.reduceAdd, Nat.reduceSub, Nat.reduceMul, eq_self, ne_eq, and_imp, forall_const, reduceCtorEq, am_w, List.map_cons, List.map_nil, List.sum_cons, List.sum_nil, Value.category, Nat.zero_le, Nat.le_refl]
    exact e51 p z
theorem ct_risLong (y : MY F n h m ad s) {v b : Int64} {pl : Nat} (hv : isOk s = true → am_J h 10 62 m = v ∧ am_I h 10 61 m = Int32.ofNat pl) : am_Ct tt 192 [.ref m, .long b] h (am_pV (fun k => MY F n k m ad (bs s fun q => if v = b then .ok q else .error (5, pl)) ∧ mg m ad Xn Yq h k) no_x) := by
  refine vc_192_0 tt _ _ h _ _ ⟨y.1.1, _, _, ct_mfine y, fun x k e => ?_, fun _ _ z => z.elim⟩
  obtain ⟨rfl, rfl⟩ := e
  cases s with
  | error e => exact ⟨fun _ => ⟨y, mg.re⟩, fun z => absurd rfl z⟩
  | ok p =>
    obtain ⟨e62, e61⟩ := hv rfl
    have kk := y.1.1
    refine ⟨fun z => absurd z (show ¬ Int32.ofNat 1 = Int32.ofNat 0 by decide), fun _ => ?_⟩
    simp only [kk, e62, e61, qc_eq, true_and, and_true, and_self, true_or, or_true, false_or, or_false, false_and, and_false, not_true_eq_false, not_false_eq_true, Classical.not_not, true_implies, false_implies, implies_true, exists_eq_left, exists_eq_left', Option.some.injEq, reduceIte, Nat.reduceEqDiff, Nat.reduceLT, Nat.reduceLeDiff, Nat.reduceAdd, Nat.reduceSub, Nat.reduceMul, eq_self, ne_eq, and_imp, forall_const, reduceCtorEq, am_w, List.map_cons, List.map_nil, List.sum_cons, List.sum_nil, Value.category, Nat.zero_le, Nat.le_refl]
    refine ⟨fun c => ⟨?_, mg.re⟩, fun c => ⟨_, _, ct_mfails y (f := 5) (pl := pl) (by omega) (by omega), fun k2 w => ⟨?_, w.2⟩, fun _ _ z => z.elim⟩⟩
    · have : (bs (Except.ok p : Ms) fun q => if v = b then .ok q else .error (5, pl)) = .ok p := if_pos c
      rw [this]; exact y
    · have : (bs (Except.ok p : Ms) fun q => if v = b then .ok q else .error (5, pl)) = .error (5, pl) := if_neg c
      rw [this]; exact w.1
/-- begins, and so long -/
theorem bg_w {w : Nat} (hw : w < 1000) {v : Int64} {pl : Nat} (hv : ∀ a p', bs s (nN F n) = .ok (a, p') → a = v) (hp : ∀ p, s = .ok p → p = pl) : (bs (st (bs s (nN F n))) fun q => if v = l64 w then (.ok q : Ms) else .error (5, pl)) = st (bs s fun p => tN F n p (l64 w) (l64 w)) := by
  cases s with
  | error e => rfl
  | ok p =>
    have hp := hp p rfl
    subst hp
    have hv : ∀ a p', nN F n p = .ok (a, p') → a = v := hv
    show (bs (st (nN F n p)) fun q => if v = l64 w then (.ok q : Ms) else .error (5, p)) = st (tN F n p (l64 w) (l64 w))
    rw [tN_b (show Int64.ofNat 0 ≤ l64 w by rw [ql_le (by omega) (by omega)]; omega)]
    cases e1 : nN F n p with
    | error e => rfl
    | ok a =>
      obtain ⟨a, q⟩ := a
      have := hv _ _ e1
      subst this
      show (if a = l64 w then (.ok q : Ms) else .error (5, p)) = st (if l64 w ≤ a ∧ a ≤ l64 w then .ok (a, q) else .error (5, p))
      by_cases c : a = l64 w
      · rw [if_pos c, if_pos (by rw [c]; exact ⟨Int64.le_refl _, Int64.le_refl _⟩)]; rfl
      · rw [if_neg c, if_neg (fun z => c (Int64.le_antisymm z.2 z.1))]; rfl
def pMk (F : Fn) (n t E p : Nat) : Except pe ((Nat → Bool) × Nat) := if E = 0 then .ok (fun _ => false, p) else tM F n t E p
theorem d8 : ∀ E, E ≤ 24 → ((Int32.ofNat E + Int32.ofNat 7) / Int32.ofNat 8).toInt64 = l64 ((E + 7) / 8) := by decide
theorem ct_rmarks {p : Nat} (y : MY F n h m ad (.ok p)) {t E : Nat} (ht : t < 256) (hE : E ≤ 24) {r : Except pe ((Nat → Bool) × Nat)} (hr : r = pMk F n t E p) : am_Ct tt 193 [.ref m, .int (Int32.ofNat t), .int (Int32.ofNat E)] h (am_pI (fun _ k => MY F n k m ad (st r) ∧ mg m ad X26 Ybg h k ∧ ∀ g p', r = .ok (g, p') → ∀ j, j < E → am_A k (ad 26) j = b01 (g j)) no_x) := by
  have key : ∀ (d i : Nat) (k : am_H), d + i = 24 → MY F n k m ad (.ok p) → mg m ad X26 Ybg h k → (∀ j, j < i → am_A k (ad 26) j = Int32.ofNat 0) → am_Ev tt 193 2 [some (.ref m), some (.int (Int32.ofNat t)), some (.int (Int32.ofNat E)), some (.int (Int32.ofNat i))] [] k (am_pI (fun _ k => MY F n k m ad (st r) ∧ mg m ad X26 Ybg h k ∧ ∀ g p', r = .ok (g, p') → ∀ j, j < E → am_A k (ad 26) j = b01 (g j)) no_x) := by
    intro d
    induction d with
    | zero =>
      intro i k ei y g e26
      have : i = 24 := by omega
      subst this
      have kk := y.1.1
      refine vc_193_2 tt _ _ _ _ _ _ _ ?_
      simp (disch := omega) only [kk, qi_lt, qi_le, qi_eq, qi_nn, qi_in, qi_add, qi_l, ql_i, ql_lt, ql_le, ql_eq, ql_add, qc_lt, qc_eq, qc_ge, qc_gt, qc_le, true_and, and_true, and_self, true_or, or_true, false_or, or_false, false_and, and_false, not_true_eq_false, not_false_eq_true, Classical.not_not, true_implies, false_implies, implies_true, exists_eq_left, exists_eq_left', Option.some.injEq, reduceIte, Nat.reduceEqDiff, Nat.reduceLT, Nat.reduceLeDiff, Nat.reduceAdd, Nat.reduceSub, Nat.reduceMul, eq_self, ne_eq, and_imp, forall_const, reduceCtorEq, am_w, List.map_cons, List.map_nil, List.sum_cons, List.sum_nil, Value.category, Nat.zero_le, Nat.le_refl]
      unfold pMk at hr
      refine ⟨fun c => ?_, fun c => ?_⟩
      · rw [if_pos c] at hr
        refine vc_193_33 tt _ _ _ ⟨Or.inl rfl, ?_⟩
        rw [hr]
        exact ⟨y, g, fun g' p' z j hj => absurd hj (by omega)⟩
      · rw [if_neg c, tM] at hr
        refine ⟨_, _, ct_mnext y, fun v k2 e2 => ?_, fun _ _ z => z.elim⟩
        obtain ⟨y2, g2, ev, eh⟩ := e2
        by_cases cp : p < n
        · rw [if_pos cp] at hr
          have := eh ⟨p, rfl, cp⟩
          subst this
          have ev : v = F p &&& Int32.ofNat 255 := by rw [ev]; show (if p < n then _ else _) = _; rw [if_pos cp]
          refine ⟨fun c2 => ?_, fun c2 => ?_⟩
          · rw [← ev, if_pos c2] at hr
            have e27 := y.2.2.2.2.1.2
            have kk2 := y.1.1
            refine vc_193_35 tt _ _ _ _ _ _ ⟨kk2, kk2, _, _, ct_mneed y rfl, fun k3 w3 => ⟨w3.1.1.1, _, _, ct_rbegins w3.1 rfl, fun k4 w4 => ?_, fun _ _ z => z.elim⟩, fun _ _ z => z.elim⟩
            have et : (bs (Except.ok p : Ms) fun p => tX F n p t) = .ok ((), p + 1) := by show tX F n p t = _; rw [tX, if_pos cp, ← ev, if_pos c2]
            rw [et] at w3
            obtain ⟨y3, g3⟩ := w3
            have y3 : MY F n k3 m ad (.ok (p + 1)) := y3
            rw [et] at w4
            obtain ⟨y4, g4, v4, e61⟩ := w4
            have y4 : MY F n k4 m ad (st (bs (.ok (p + 1)) (nN F n))) := y4
            have v4 : ∀ v p', bs (.ok (p + 1)) (nN F n) = .ok (v, p') → am_J k4 10 62 m = v := v4
            have e61 := e61 (p + 1) rfl
            refine ⟨by decide, y4.1.1, ?_⟩
            rw [d8 E hE]
            refine ⟨_, _, ct_risLong y4 (v := am_J k4 10 62 m) (pl := p + 1) (fun _ => ⟨rfl, e61⟩), fun k5 w5 => ?_, fun _ _ z => z.elim⟩
            obtain ⟨y5, g5⟩ := w5
            rw [bg_w (s := .ok (p + 1)) (w := (E + 7) / 8) (by omega) (fun a p' z => (v4 a p' z).symm) (fun q z => by cases z; rfl)] at y5
            have y5 : MY F n k5 m ad (st (tN F n (p + 1) (l64 ((E + 7) / 8)) (l64 ((E + 7) / 8)))) := y5
            have g35 : mg m ad Xn Ybg k2 k5 := (g3.mo (fun _ z => z) (fun _ z => by omega)).tr (g4.tr (g5.mo (fun _ z => z) (fun _ z => by omega)))
            refine ⟨y5.1.1, _, _, ct_rrow y5 hE rfl, fun k6 w6 => ?_, fun _ _ z => z.elim⟩
            obtain ⟨y6, g6, v6⟩ := w6
            have g26 : mg m ad X26 Ybg h k6 := g.tr ((g35.mo (fun _ z => z.elim) (fun _ z => z)).tr (g6.mo (fun _ z => z) (fun _ z => by omega)))
            refine ⟨y6.1.1, _, _, ct_mfine y6, fun z k7 e7 => ?_, fun _ _ z => z.elim⟩
            obtain ⟨rfl, rfl⟩ := e7
            rw [e27]
            cases e1 : tN F n (p + 1) (l64 ((E + 7) / 8)) (l64 ((E + 7) / 8)) with
            | error e =>
              rw [e1] at y6 hr
              refine ⟨fun _ => ⟨Or.inr rfl, ?_⟩, fun z => absurd rfl z⟩
              rw [hr]
              exact ⟨y6, g26, (fun g' p' z => by cases z)⟩
            | ok a =>
              obtain ⟨a, q⟩ := a
              rw [e1] at y6 hr v6
              have y6 : MY F n k7 m ad (st (tR F n q E)) := y6
              have v6 : ∀ g p', tR F n q E = .ok (g, p') → ∀ j, j < E → am_A k7 (ad 26) j = b01 (g j) := v6
              have hr : r = bd (tR F n q E) fun g q' => if cn g E = 0 then .error (2, p) else .ok (g, q') := hr
              rw [show bs (st (Except.ok (a, q) : Except pe (Int64 × Nat))) (fun p => tR F n p E) = tR F n q E from rfl]
              cases e2 : tR F n q E with
              | error e =>
                rw [e2] at y6 hr
                refine ⟨fun _ => ⟨Or.inr rfl, ?_⟩, fun z => absurd rfl z⟩
                rw [hr]
                exact ⟨y6, g26, (fun g' p' z => by cases z)⟩
              | ok b =>
                obtain ⟨gb, q'⟩ := b
                have vv := v6 _ _ e2
                rw [e2] at y6 hr
                have hr : r = if cn gb E = 0 then .error (2, p) else .ok (gb, q') := hr
                have y6 : MY F n k7 m ad (.ok q') := y6
                refine ⟨fun z => absurd z (show ¬ Int32.ofNat 1 = Int32.ofNat 0 by decide), fun _ => ⟨y6.1.1, _, _, ct_mbitsSet y6.1 hE, fun x k8 e8 => ?_, fun _ _ z => z.elim⟩⟩
                obtain ⟨rfl, rfl⟩ := e8
                have c24 := cn_le gb E
                rw [cn_b vv, qi_eq (by omega) (by omega)]
                refine ⟨fun c3 => ⟨Or.inr rfl, ?_⟩, fun c3 => ?_⟩
                · rw [if_neg c3] at hr
                  rw [hr]
                  exact ⟨y6, g26, (fun g' p' z => by cases z; exact vv)⟩
                · have c3 := Classical.not_not.1 c3
                  rw [if_pos c3] at hr
                  refine ⟨y6.1.1, _, _, ct_mfails y6 (f := 2) (pl := p) (by omega) (by omega), fun k9 w9 => ⟨Or.inr rfl, ?_⟩, fun _ _ z => z.elim⟩
                  rw [hr]
                  exact ⟨w9.1, g26.tr (w9.2.mo (fun _ z => z.elim) (fun _ z => by omega)), (fun g' p' z => by cases z)⟩
          · rw [← ev, if_neg c2] at hr
            refine vc_193_33 tt _ _ _ ⟨Or.inl rfl, ?_⟩
            rw [hr]
            exact ⟨y, g, fun g' p' z j hj => by cases z; exact e26 j (by omega)⟩
        · have ev : v = -1 := by rw [ev]; show (if p < n then _ else _) = _; rw [if_neg cp]
          have eb : (bs (Except.ok p : Ms) fun p => if p < n then .ok p else .error (1, n)) = .error (1, n) := by show (if p < n then _ else _) = _; rw [if_neg cp]
          rw [eb] at y2
          rw [if_neg cp] at hr
          refine ⟨fun c2 => ?_, fun c2 => ?_⟩
          · rw [ev] at c2
            exact absurd c2.symm (by rw [qi_m1 (by omega)]; exact id)
          · refine vc_193_33 tt _ _ _ ⟨Or.inl rfl, ?_⟩
            rw [hr]
            exact ⟨y2, g.tr (g2.mo (fun _ z => z.elim) (fun _ z => by omega)), fun g' p' z => by cases z⟩
    | succ d ih =>
      intro i k ei y g e26
      have kk := y.1.1
      have q1 : ¬ 24 ≤ i := by omega
      have i24 : i < 24 := by omega
      obtain ⟨b1, b2, b3⟩ := md_r y.1 (k := 26) (by decide) rfl (by decide)
      refine vc_193_2 tt _ _ _ _ _ _ _ ?_
      simp (disch := omega) only [kk, q1, b1, b2, b3, i24, z_1, qi_lt, qi_le, qi_eq, qi_nn, qi_in, qi_add, qi_l, ql_i, ql_lt, ql_le, ql_eq, ql_add, qc_lt, qc_eq, qc_ge, qc_gt, qc_le, true_and, and_true, and_self, true_or, or_true, false_or, or_false, false_and, and_false, not_true_eq_false, not_false_eq_true, Classical.not_not, true_implies, false_implies, implies_true, exists_eq_left, exists_eq_left', Option.some.injEq, reduceIte, Nat.reduceEqDiff, Nat.reduceLT, Nat.reduceLeDiff, Nat.reduceAdd, Nat.reduceSub, Nat.reduceMul, eq_self, ne_eq, and_imp, forall_const, reduceCtorEq, am_w, List.map_cons, List.map_nil, List.sum_cons, List.sum_nil, Value.category, Nat.zero_le, Nat.le_refl]
      have s1 : mg m ad X26 Yz k (am_sA k (ad 26) i (Int32.ofNat 0)) := mg.sA y.1 rfl
      refine ih (i + 1) _ (by omega) (y.on s1 (by omega) id id id id) (g.tr (s1.mo (fun _ z => z) (fun _ z => z.elim))) (fun j hj => ?_)
      by_cases cj : j = i
      · subst cj
        simp only [am_hs, true_and, and_true, and_self, true_or, or_true, false_or, or_false, false_and, and_false, not_true_eq_false, not_false_eq_true, Classical.not_not, true_implies, false_implies, implies_true, exists_eq_left, exists_eq_left', Option.some.injEq, reduceIte, Nat.reduceEqDiff, Nat.reduceLT, Nat.reduceLeDiff, Nat.reduceAdd, Nat.reduceSub, Nat.reduceMul, eq_self, ne_eq, and_imp, forall_const, reduceCtorEq, am_w, List.map_cons, List.map_nil, List.sum_cons, List.sum_nil, Value.category, Nat.zero_le, Nat.le_refl]
      · simp (disch := omega) only [am_hs, cj, true_and, and_true, and_self, true_or, or_true, false_or, or_false, false_and, and_false, not_true_eq_false, not_false_eq_true, Classical.not_not, true_implies, false_implies, implies_true, exists_eq_left, exists_eq_left', Option.some.injEq, reduceIte, Nat.reduceEqDiff, Nat.reduceLT, Nat.reduceLeDiff, Nat.reduceAdd, Nat.reduceSub, Nat.reduceMul, eq_self, ne_eq, and_imp, forall_const, reduceCtorEq, am_w, List.map_cons, List.map_nil, List.sum_cons, List.sum_nil, Value.category, Nat.zero_le, Nat.le_refl]
        exact e26 j (by omega)
  exact vc_193_0 tt _ _ _ h _ _ (key 24 0 h (by omega) y mg.re (fun j hj => absurd hj (by omega)))
end MEN
