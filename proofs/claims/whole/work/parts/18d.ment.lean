/-! deps: 18c -/
/-! ===== the reference writes: entries ===== -/
/-! 173 yX10_putEntries -/
theorem vc_173_0 (tt : Nat → Nat) (a0 : Nat) (a1 : Int32) (h : am_H) (Q : am_H → Prop) (Qx : String → am_H → Prop) (q :
  (am_K h a0 = 11 ∧ ∃ (Q2 : am_H → Prop) (X2 : String → am_H → Prop), am_Ct tt 159 [.ref a0, .int (Int32.ofNat 5)] h (am_pV Q2 X2) ∧ (∀ h1, Q2 h1 →
   (am_K h1 a0 = 11 ∧
   (am_K h1 a0 = 11 ∧ ∃ (Q4 : am_H → Prop) (X4 : String → am_H → Prop), am_Ct tt 160 [.ref a0, .long ((am_I h1 10 1 a0)).toInt64] h1 (am_pV Q4 X4) ∧ (∀ h3, Q4 h3 →
    (am_K h3 a0 = 11 ∧
    ((((am_I h3 10 1 a0) - a1) ≤ (Int32.ofNat 0) →
     am_Ev tt 173 169 [some (.ref a0), none, none, none, none, none] [] h3 (am_pV Q Qx)) ∧
    (¬ (((am_I h3 10 1 a0) - a1) ≤ (Int32.ofNat 0)) →
     am_Ev tt 173 27 [some (.ref a0), some (.int a1), some (.int ((am_I h3 10 1 a0) - a1)), some (.int (Int32.ofNat 0)), none, none] [] h3 (am_pV Q Qx))))) ∧ (∀ E5 h3, X4 E5 h3 → Qx E5 h3)))) ∧ (∀ E6 h1, X2 E6 h1 → Qx E6 h1))) :
  am_Ev tt 173 0 [some (.ref a0), some (.int a1), none, none, none, none] [] h (am_pV Q Qx) := am_vc 20 [(27, [true, true, true, true, false, false]), (69, [true, true, true, true, false, false]), (122, [true, true, true, false, false, false]), (124, [true, true, true, true, false, false]), (169, [true, false, false, false, false, false]), (180, [true, false, false, true, true, false]), (223, [true, false, false, false, true, false]), (235, [true, false, false, false, true, true])] q
theorem vc_173_27 (tt : Nat → Nat) (a0 : Nat) (a1 : Int32) (a2 : Int32) (a3 : Int32) (h : am_H) (Q : am_H → Prop) (Qx : String → am_H → Prop) (q :
  (am_K h a0 = 11 ∧
  (((am_I h 10 1 a0) ≤ a3 →
   (am_K h a0 = 11 ∧
   (am_K h a0 = 11 ∧ ∃ (Q2 : am_H → Prop) (X2 : String → am_H → Prop), am_Ct tt 172 [.ref a0, .int (Int32.ofNat 14), .int (am_I h 10 1 a0)] h (am_pV Q2 X2) ∧ (∀ h1, Q2 h1 →
    am_Ev tt 173 69 [some (.ref a0), some (.int a1), some (.int a2), some (.int (Int32.ofNat 0)), none, none] [] h1 (am_pV Q Qx)) ∧ (∀ E3 h1, X2 E3 h1 → Qx E3 h1)))) ∧
  (¬ ((am_I h 10 1 a0) ≤ a3) →
   (am_K h a0 = 11 ∧ ∃ q4, am_R h 10 26 a0 = some q4 ∧
   ((a3 < a1 →
    (vp_in a3 (am_N h q4) ∧ ∃ w5, ((am_K h q4 = 23 ∧ w5 = ((Int32.ofNat 0)).toInt8.toInt32) ∨ (am_K h q4 = 24 ∧ w5 = ((Int32.ofNat 0) &&& 1))) ∧
    am_Ev tt 173 27 [some (.ref a0), some (.int a1), some (.int a2), some (.int (a3 + (Int32.ofNat 1))), none, none] [] (am_sA h q4 (a3).toNatClampNeg w5) (am_pV Q Qx))) ∧
   (¬ (a3 < a1) →
    (vp_in a3 (am_N h q4) ∧ ∃ w6, ((am_K h q4 = 23 ∧ w6 = ((Int32.ofNat 1)).toInt8.toInt32) ∨ (am_K h q4 = 24 ∧ w6 = ((Int32.ofNat 1) &&& 1))) ∧
    am_Ev tt 173 27 [some (.ref a0), some (.int a1), some (.int a2), some (.int (a3 + (Int32.ofNat 1))), none, none] [] (am_sA h q4 (a3).toNatClampNeg w6) (am_pV Q Qx))))))))) :
  am_Ev tt 173 27 [some (.ref a0), some (.int a1), some (.int a2), some (.int a3), none, none] [] h (am_pV Q Qx) := am_vc 18 [(27, [true, true, true, true, false, false]), (69, [true, true, true, true, false, false]), (122, [true, true, true, false, false, false]), (124, [true, true, true, true, false, false]), (169, [true, false, false, false, false, false]), (180, [true, false, false, true, true, false]), (223, [true, false, false, false, true, false]), (235, [true, false, false, false, true, true])] q
theorem vc_173_69 (tt : Nat → Nat) (a0 : Nat) (a1 : Int32) (a2 : Int32) (a3 : Int32) (h : am_H) (Q : am_H → Prop) (Qx : String → am_H → Prop) (q :
  ((a2 ≤ a3 →
   (am_K h a0 = 11 ∧ ∃ (Q2 : Int32 → am_H → Prop) (X2 : String → am_H → Prop), am_Ct tt 163 [.ref a0, .int a2] h (am_pI Q2 X2) ∧ (∀ x3 h1, Q2 x3 h1 →
    ((x3 ≤ (Int32.ofNat 0) →
     am_Ev tt 173 122 [some (.ref a0), some (.int a1), some (.int a2), none, none, none] [] h1 (am_pV Q Qx)) ∧
    (¬ (x3 ≤ (Int32.ofNat 0)) →
     (am_K h1 a0 = 11 ∧ ∃ (Q5 : am_H → Prop) (X5 : String → am_H → Prop), am_Ct tt 172 [.ref a0, .int (Int32.ofNat 15), .int a2] h1 (am_pV Q5 X5) ∧ (∀ h4, Q5 h4 →
      am_Ev tt 173 122 [some (.ref a0), some (.int a1), some (.int a2), none, none, none] [] h4 (am_pV Q Qx)) ∧ (∀ E6 h4, X5 E6 h4 → Qx E6 h4))))) ∧ (∀ E7 h1, X2 E7 h1 → Qx E7 h1))) ∧
  (¬ (a2 ≤ a3) →
   (am_K h a0 = 11 ∧ ∃ q8, am_R h 10 26 a0 = some q8 ∧
   (am_K h a0 = 11 ∧ ∃ q9, am_R h 10 2 a0 = some q9 ∧
   (am_K h a0 = 11 ∧ ∃ q10, am_R h 10 25 a0 = some q10 ∧
   ((am_K h q10 = 21 ∨ am_K h q10 = 31) ∧ vp_in (a1 + a3) (am_N h q10) ∧
   ((am_K h q9 = 21 ∨ am_K h q9 = 31) ∧ vp_in (am_A h q10 ((a1 + a3)).toNatClampNeg) (am_N h q9) ∧
   ((¬ (am_A h q9 ((am_A h q10 ((a1 + a3)).toNatClampNeg)).toNatClampNeg) = (Int32.ofNat 0) →
    (vp_in a3 (am_N h q8) ∧ ∃ w11, ((am_K h q8 = 23 ∧ w11 = ((Int32.ofNat 0)).toInt8.toInt32) ∨ (am_K h q8 = 24 ∧ w11 = ((Int32.ofNat 0) &&& 1))) ∧
    am_Ev tt 173 69 [some (.ref a0), some (.int a1), some (.int a2), some (.int (a3 + (Int32.ofNat 1))), none, none] [] (am_sA h q8 (a3).toNatClampNeg w11) (am_pV Q Qx))) ∧
   (¬ (¬ (am_A h q9 ((am_A h q10 ((a1 + a3)).toNatClampNeg)).toNatClampNeg) = (Int32.ofNat 0)) →
    (vp_in a3 (am_N h q8) ∧ ∃ w12, ((am_K h q8 = 23 ∧ w12 = ((Int32.ofNat 1)).toInt8.toInt32) ∨ (am_K h q8 = 24 ∧ w12 = ((Int32.ofNat 1) &&& 1))) ∧
    am_Ev tt 173 69 [some (.ref a0), some (.int a1), some (.int a2), some (.int (a3 + (Int32.ofNat 1))), none, none] [] (am_sA h q8 (a3).toNatClampNeg w12) (am_pV Q Qx)))))))))))) :
  am_Ev tt 173 69 [some (.ref a0), some (.int a1), some (.int a2), some (.int a3), none, none] [] h (am_pV Q Qx) := am_vc 24 [(27, [true, true, true, true, false, false]), (69, [true, true, true, true, false, false]), (122, [true, true, true, false, false, false]), (124, [true, true, true, true, false, false]), (169, [true, false, false, false, false, false]), (180, [true, false, false, true, true, false]), (223, [true, false, false, false, true, false]), (235, [true, false, false, false, true, true])] q
theorem vc_173_122 (tt : Nat → Nat) (a0 : Nat) (a1 : Int32) (a2 : Int32) (h : am_H) (Q : am_H → Prop) (Qx : String → am_H → Prop) (q :
  am_Ev tt 173 124 [some (.ref a0), some (.int a1), some (.int a2), some (.int (Int32.ofNat 0)), none, none] [] h (am_pV Q Qx)) :
  am_Ev tt 173 122 [some (.ref a0), some (.int a1), some (.int a2), none, none, none] [] h (am_pV Q Qx) := am_vc 5 [(27, [true, true, true, true, false, false]), (69, [true, true, true, true, false, false]), (122, [true, true, true, false, false, false]), (124, [true, true, true, true, false, false]), (169, [true, false, false, false, false, false]), (180, [true, false, false, true, true, false]), (223, [true, false, false, false, true, false]), (235, [true, false, false, false, true, true])] q
theorem vc_173_124 (tt : Nat → Nat) (a0 : Nat) (a1 : Int32) (a2 : Int32) (a3 : Int32) (h : am_H) (Q : am_H → Prop) (Qx : String → am_H → Prop) (q :
  ((a2 ≤ a3 →
   (am_K h a0 = 11 ∧ ∃ (Q2 : Int32 → am_H → Prop) (X2 : String → am_H → Prop), am_Ct tt 163 [.ref a0, .int a2] h (am_pI Q2 X2) ∧ (∀ x3 h1, Q2 x3 h1 →
    ((x3 ≤ (Int32.ofNat 0) →
     am_Ev tt 173 169 [some (.ref a0), none, none, none, none, none] [] h1 (am_pV Q Qx)) ∧
    (¬ (x3 ≤ (Int32.ofNat 0)) →
     (am_K h1 a0 = 11 ∧ ∃ (Q5 : am_H → Prop) (X5 : String → am_H → Prop), am_Ct tt 172 [.ref a0, .int (Int32.ofNat 16), .int a2] h1 (am_pV Q5 X5) ∧ (∀ h4, Q5 h4 →
      am_Ev tt 173 169 [some (.ref a0), none, none, none, none, none] [] h4 (am_pV Q Qx)) ∧ (∀ E6 h4, X5 E6 h4 → Qx E6 h4))))) ∧ (∀ E7 h1, X2 E7 h1 → Qx E7 h1))) ∧
  (¬ (a2 ≤ a3) →
   (am_K h a0 = 11 ∧ ∃ q8, am_R h 10 26 a0 = some q8 ∧
   (am_K h a0 = 11 ∧ ∃ q9, am_R h 10 12 a0 = some q9 ∧
   (am_K h a0 = 11 ∧ ∃ q10, am_R h 10 25 a0 = some q10 ∧
   ((am_K h q10 = 21 ∨ am_K h q10 = 31) ∧ vp_in (a1 + a3) (am_N h q10) ∧
   ((am_K h q9 = 23 ∨ am_K h q9 = 24) ∧ vp_in (am_A h q10 ((a1 + a3)).toNatClampNeg) (am_N h q9) ∧
   (vp_in a3 (am_N h q8) ∧ ∃ w11, ((am_K h q8 = 23 ∧ w11 = ((am_A h q9 ((am_A h q10 ((a1 + a3)).toNatClampNeg)).toNatClampNeg)).toInt8.toInt32) ∨ (am_K h q8 = 24 ∧ w11 = ((am_A h q9 ((am_A h q10 ((a1 + a3)).toNatClampNeg)).toNatClampNeg) &&& 1))) ∧
   am_Ev tt 173 124 [some (.ref a0), some (.int a1), some (.int a2), some (.int (a3 + (Int32.ofNat 1))), none, none] [] (am_sA h q8 (a3).toNatClampNeg w11) (am_pV Q Qx)))))))))) :
  am_Ev tt 173 124 [some (.ref a0), some (.int a1), some (.int a2), some (.int a3), none, none] [] h (am_pV Q Qx) := am_vc 21 [(27, [true, true, true, true, false, false]), (69, [true, true, true, true, false, false]), (122, [true, true, true, false, false, false]), (124, [true, true, true, true, false, false]), (169, [true, false, false, false, false, false]), (180, [true, false, false, true, true, false]), (223, [true, false, false, false, true, false]), (235, [true, false, false, false, true, true])] q
theorem vc_173_169 (tt : Nat → Nat) (a0 : Nat) (h : am_H) (Q : am_H → Prop) (Qx : String → am_H → Prop) (q :
  (am_K h a0 = 11 ∧ ∃ (Q2 : am_H → Prop) (X2 : String → am_H → Prop), am_Ct tt 159 [.ref a0, .int (Int32.ofNat 17)] h (am_pV Q2 X2) ∧ (∀ h1, Q2 h1 →
   am_Ev tt 173 180 [some (.ref a0), none, none, some (.int (Int32.ofNat 1)), some (.int (Int32.ofNat 0)), none] [] h1 (am_pV Q Qx)) ∧ (∀ E3 h1, X2 E3 h1 → Qx E3 h1))) :
  am_Ev tt 173 169 [some (.ref a0), none, none, none, none, none] [] h (am_pV Q Qx) := am_vc 10 [(27, [true, true, true, true, false, false]), (69, [true, true, true, true, false, false]), (122, [true, true, true, false, false, false]), (124, [true, true, true, true, false, false]), (169, [true, false, false, false, false, false]), (180, [true, false, false, true, true, false]), (223, [true, false, false, false, true, false]), (235, [true, false, false, false, true, true])] q
theorem vc_173_180 (tt : Nat → Nat) (a0 : Nat) (a3 : Int32) (a4 : Int32) (h : am_H) (Q : am_H → Prop) (Qx : String → am_H → Prop) (q :
  (am_K h a0 = 11 ∧
  (((am_I h 10 1 a0) ≤ a4 →
   (am_K h a0 = 11 ∧ ∃ (Q2 : am_H → Prop) (X2 : String → am_H → Prop), am_Ct tt 160 [.ref a0, .long (a3).toInt64] h (am_pV Q2 X2) ∧ (∀ h1, Q2 h1 →
    (am_K h1 a0 = 11 ∧ ∃ (Q4 : am_H → Prop) (X4 : String → am_H → Prop), am_Ct tt 159 [.ref a0, .int (Int32.ofNat 0)] h1 (am_pV Q4 X4) ∧ (∀ h3, Q4 h3 →
     am_Ev tt 173 223 [some (.ref a0), none, none, none, some (.int (Int32.ofNat 0)), none] [] h3 (am_pV Q Qx)) ∧ (∀ E5 h3, X4 E5 h3 → Qx E5 h3))) ∧ (∀ E6 h1, X2 E6 h1 → Qx E6 h1))) ∧
  (¬ ((am_I h 10 1 a0) ≤ a4) →
   (am_K h a0 = 11 ∧ ∃ q7, am_R h 10 3 a0 = some q7 ∧
   ((am_K h q7 = 21 ∨ am_K h q7 = 31) ∧ vp_in a4 (am_N h q7) ∧
   am_Ev tt 173 180 [some (.ref a0), none, none, some (.int (a3 + (((Int32.ofNat 2) * (am_A h q7 (a4).toNatClampNeg)) + (Int32.ofNat 2)))), some (.int (a4 + (Int32.ofNat 1))), none] [] h (am_pV Q Qx))))))) :
  am_Ev tt 173 180 [some (.ref a0), none, none, some (.int a3), some (.int a4), none] [] h (am_pV Q Qx) := am_vc 20 [(27, [true, true, true, true, false, false]), (69, [true, true, true, true, false, false]), (122, [true, true, true, false, false, false]), (124, [true, true, true, true, false, false]), (169, [true, false, false, false, false, false]), (180, [true, false, false, true, true, false]), (223, [true, false, false, false, true, false]), (235, [true, false, false, false, true, true])] q
theorem vc_173_223 (tt : Nat → Nat) (a0 : Nat) (a4 : Int32) (h : am_H) (Q : am_H → Prop) (Qx : String → am_H → Prop) (q :
  (am_K h a0 = 11 ∧
  (((am_I h 10 1 a0) ≤ a4 →
   (am_K h a0 = 11 ∧ ∃ (Q2 : am_H → Prop) (X2 : String → am_H → Prop), am_Ct tt 171 [.ref a0, .int (Int32.ofNat 20)] h (am_pV Q2 X2) ∧ (∀ h1, Q2 h1 →
    (am_K h1 a0 = 11 ∧ ∃ (Q4 : am_H → Prop) (X4 : String → am_H → Prop), am_Ct tt 171 [.ref a0, .int (Int32.ofNat 21)] h1 (am_pV Q4 X4) ∧ (∀ h3, Q4 h3 →
     (am_K h3 a0 = 11 ∧ ∃ (Q6 : am_H → Prop) (X6 : String → am_H → Prop), am_Ct tt 159 [.ref a0, .int (Int32.ofNat 0)] h3 (am_pV Q6 X6) ∧ (∀ h5, Q6 h5 →
      Q h5) ∧ (∀ E7 h5, X6 E7 h5 → Qx E7 h5))) ∧ (∀ E8 h3, X4 E8 h3 → Qx E8 h3))) ∧ (∀ E9 h1, X2 E9 h1 → Qx E9 h1))) ∧
  (¬ ((am_I h 10 1 a0) ≤ a4) →
   am_Ev tt 173 235 [some (.ref a0), none, none, none, some (.int a4), some (.int (Int32.ofNat 0))] [] h (am_pV Q Qx))))) :
  am_Ev tt 173 223 [some (.ref a0), none, none, none, some (.int a4), none] [] h (am_pV Q Qx) := am_vc 16 [(27, [true, true, true, true, false, false]), (69, [true, true, true, true, false, false]), (122, [true, true, true, false, false, false]), (124, [true, true, true, true, false, false]), (169, [true, false, false, false, false, false]), (180, [true, false, false, true, true, false]), (223, [true, false, false, false, true, false]), (235, [true, false, false, false, true, true])] q
theorem vc_173_235 (tt : Nat → Nat) (a0 : Nat) (a4 : Int32) (a5 : Int32) (h : am_H) (Q : am_H → Prop) (Qx : String → am_H → Prop) (q :
  (am_K h a0 = 11 ∧ ∃ q1, am_R h 10 3 a0 = some q1 ∧
  (am_K h a0 = 11 ∧ ∃ q2, am_R h 10 25 a0 = some q2 ∧
  ((am_K h q2 = 21 ∨ am_K h q2 = 31) ∧ vp_in a4 (am_N h q2) ∧
  ((am_K h q1 = 21 ∨ am_K h q1 = 31) ∧ vp_in (am_A h q2 (a4).toNatClampNeg) (am_N h q1) ∧
  (((am_A h q1 ((am_A h q2 (a4).toNatClampNeg)).toNatClampNeg) ≤ a5 →
   (am_K h a0 = 11 ∧ ∃ (Q4 : am_H → Prop) (X4 : String → am_H → Prop), am_Ct tt 161 [.ref a0, .long (Int64.ofNat 0), .int (Int32.ofNat 2)] h (am_pV Q4 X4) ∧ (∀ h3, Q4 h3 →
    am_Ev tt 173 223 [some (.ref a0), none, none, none, some (.int (a4 + (Int32.ofNat 1))), none] [] h3 (am_pV Q Qx)) ∧ (∀ E5 h3, X4 E5 h3 → Qx E5 h3))) ∧
  (¬ ((am_A h q1 ((am_A h q2 (a4).toNatClampNeg)).toNatClampNeg) ≤ a5) →
   (am_K h a0 = 11 ∧ ∃ q6, am_R h 10 4 a0 = some q6 ∧
   (am_K h a0 = 11 ∧ ∃ q7, am_R h 10 25 a0 = some q7 ∧
   ((am_K h q7 = 21 ∨ am_K h q7 = 31) ∧ vp_in a4 (am_N h q7) ∧
   ((am_K h q6 = 21 ∨ am_K h q6 = 31) ∧ vp_in (((Int32.ofNat 20) * (am_A h q7 (a4).toNatClampNeg)) + a5) (am_N h q6) ∧
   (am_K h a0 = 11 ∧ ∃ (Q9 : am_H → Prop) (X9 : String → am_H → Prop), am_Ct tt 161 [.ref a0, .long ((am_A h q6 ((((Int32.ofNat 20) * (am_A h q7 (a4).toNatClampNeg)) + a5)).toNatClampNeg)).toInt64, .int (Int32.ofNat 2)] h (am_pV Q9 X9) ∧ (∀ h8, Q9 h8 →
    am_Ev tt 173 235 [some (.ref a0), none, none, none, some (.int a4), some (.int (a5 + (Int32.ofNat 1)))] [] h8 (am_pV Q Qx)) ∧ (∀ E10 h8, X9 E10 h8 → Qx E10 h8))))))))))))) :
  am_Ev tt 173 235 [some (.ref a0), none, none, none, some (.int a4), some (.int a5)] [] h (am_pV Q Qx) := am_vc 29 [(27, [true, true, true, true, false, false]), (69, [true, true, true, true, false, false]), (122, [true, true, true, false, false, false]), (124, [true, true, true, true, false, false]), (169, [true, false, false, false, false, false]), (180, [true, false, false, true, true, false]), (223, [true, false, false, false, true, false]), (235, [true, false, false, false, true, true])] q

section MR2
variable {tt : Nat → Nat} {P : Nat → Prop} {h h' h'' : am_H} {m : Nat} {ad : Nat → Nat} {S : sS}
theorem mb_cA {x : Nat} {v : Int32} {f : Nat → Int32} (e : x ≠ ad 23) : am_cA (mb m ad h v) x f = mb m ad (am_cA h x f) v := by
  have hI : am_I (am_cA h x f) = am_I h := rfl
  unfold mb
  rw [hI]
  simp only [am_sI, am_cA, am_sA, am_K, am_I, am_J, am_R, am_N, am_A, am_B, am_C, am_U, am_V, Prod.mk.injEq, true_and, and_true]
  funext y j
  simp only [va_up, am_u2]
  by_cases c1 : y = x
  · rw [if_pos c1, if_neg (fun z => e (c1 ▸ z.1)), if_pos c1]
  · rw [if_neg c1, if_neg c1]
    rfl
theorem ml_cA {x : Nat} {f : Nat → Int32} (e : x ≠ ad 23) : ∀ {l : List Int32} {h : am_H}, am_cA (ml m ad h l) x f = ml m ad (am_cA h x f) l
  | [], _ => rfl
  | v :: l, h => by rw [ml_cons, ml_cons, ml_cA e, mb_cA e]
theorem ct_putEntries {n : Nat} (x : MX P h m ad S n) (hn : n + (wE S.1).length ≤ 9300) : am_Ct tt 173 [.ref m, .int (Int32.ofNat (oK S.1).length)] h (am_pV (fun h' => ∃ f, h' = ml m ad (am_cA h (ad 26) f) (wE S.1)) no_x) := by
  have wf := x.2.1
  have n24 := wf.1.1
  have hK := oK_le wf.1
  have ub := uns_b wf.1
  have s0 := x.1.1
  have ne : ad 26 ≠ ad 23 := x.ne (by omega)
  have xF : ∀ f l, MX P (ml m ad (am_cA h (ad 26) f) l) m ad S (n + l.length) := fun f l => (x.row (k := 26) (by omega) f).tl l
  have fA : ∀ f l, am_A (ml m ad (am_cA h (ad 26) f) l) (ad 26) = f := fun f l => by rw [ml_A ne, cA_A]
  have fS : ∀ f l i v, am_sA (ml m ad (am_cA h (ad 26) f) l) (ad 26) i v = ml m ad (am_cA h (ad 26) (va_up f i v)) l := fun f l i v => by rw [sA_cA, fA, ml_cA ne, cA_cA]
  -- names
  have key5 : ∀ (i : Nat), i < a_n S.1 → ∀ (d j : Nat) (f : Nat → Int32) (l : List Int32) (Q : am_H → Prop), d + j = e_un (a_E S.1 (oo S.1 i)) → n + (l ++ ((R0 (e_un (a_E S.1 (oo S.1 i)))).flatMap (fun k => LB 2 (e_nm (a_E S.1 (oo S.1 i)) k).toInt64) ++ LB 2 (Int64.ofNat 0))).length ≤ 9300 →
      am_Ev tt 173 223 [some (.ref m), none, none, none, some (.int (Int32.ofNat (i + 1))), none] [] (ml m ad (am_cA h (ad 26) f) (l ++ ((R0 (e_un (a_E S.1 (oo S.1 i)))).flatMap (fun k => LB 2 (e_nm (a_E S.1 (oo S.1 i)) k).toInt64) ++ LB 2 (Int64.ofNat 0)))) (am_pV Q no_x) →
      am_Ev tt 173 235 [some (.ref m), none, none, none, some (.int (Int32.ofNat i)), some (.int (Int32.ofNat j))] [] (ml m ad (am_cA h (ad 26) f) (l ++ (R0 j).flatMap (fun k => LB 2 (e_nm (a_E S.1 (oo S.1 i)) k).toInt64))) (am_pV Q no_x) := by
    intro i hi d
    have hlt := oo_lt wf.1 hi
    have w2 := (wf.1.2.1 _ hlt).2.1
    have i24 : i < 24 := by omega
    have o24 : oo S.1 i < 24 := by omega
    induction d with
    | zero =>
      intro j f l Q e hl hQ
      have : j = e_un (a_E S.1 (oo S.1 i)) := by omega
      subst this
      have y := xF f (l ++ (R0 (e_un (a_E S.1 (oo S.1 i)))).flatMap (fun k => LB 2 (e_nm (a_E S.1 (oo S.1 i)) k).toInt64))
      rw [← List.append_assoc, ← ml_app] at hQ
      rw [← List.append_assoc, List.length_append, LB_l] at hl
      generalize hk : ml m ad (am_cA h (ad 26) f) (l ++ (R0 (e_un (a_E S.1 (oo S.1 i)))).flatMap (fun k => LB 2 (e_nm (a_E S.1 (oo S.1 i)) k).toInt64)) = k at y hQ ⊢
      have s := y.1.1
      have yo := y.2.2.2 i hi
      have o2 := (y.o hi).2.1
      refine vc_173_235 tt _ _ _ _ _ _ ?_
      simp (disch := omega) only [s.1, md_f s, yo, o2, i24, o24, qi_lt, qi_le, qi_eq, qi_nn, qi_in, qi_add, qi_l, ql_i, ql_lt, ql_le, ql_eq, ql_add, qc_lt, qc_eq, qc_ge, qc_gt, qc_le, true_and, and_true, and_self, true_or, or_true, false_or, or_false, false_and, and_false, not_true_eq_false, not_false_eq_true, Classical.not_not, true_implies, false_implies, implies_true, exists_eq_left, exists_eq_left', Option.some.injEq, reduceIte, Nat.reduceEqDiff, Nat.reduceLT, Nat.reduceLeDiff, Nat.reduceAdd, Nat.reduceSub, Nat.reduceMul, eq_self, ne_eq, and_imp, forall_const, reduceCtorEq, am_w, List.map_cons, List.map_nil, List.sum_cons, List.sum_nil, Value.category, Nat.zero_le, Nat.le_refl]
      exact (y.l (k := 2) (by omega) (by omega) fun h2 e2 x2 => by rw [e2]; exact hQ).2
    | succ d ih =>
      intro j f l Q e hl hQ
      have y := xF f (l ++ (R0 j).flatMap (fun k => LB 2 (e_nm (a_E S.1 (oo S.1 i)) k).toInt64))
      have nx := ih (j + 1) f l Q (by omega) hl hQ
      rw [fm_s, ← List.append_assoc, ← ml_app] at nx
      have fl := fm_le (g := fun k => LB 2 (e_nm (a_E S.1 (oo S.1 i)) k).toInt64) (i := j) (n := e_un (a_E S.1 (oo S.1 i))) (by omega)
      simp only [LB_l] at fl
      simp only [List.length_append, LB_l] at hl
      rw [List.length_append] at y
      generalize hk : ml m ad (am_cA h (ad 26) f) (l ++ (R0 j).flatMap (fun k => LB 2 (e_nm (a_E S.1 (oo S.1 i)) k).toInt64)) = k at y nx ⊢
      have s := y.1.1
      have yo := y.2.2.2 i hi
      have o2 := (y.o hi).2.1
      have o3 := (y.o hi).2.2.1 j (by omega)
      have b1 : 20 * oo S.1 i + j < 480 := by omega
      refine vc_173_235 tt _ _ _ _ _ _ ?_
      simp (disch := omega) only [s.1, md_f s, yo, o2, o3, i24, o24, b1, qi_mul, qi_lt, qi_le, qi_eq, qi_nn, qi_in, qi_add, qi_l, ql_i, ql_lt, ql_le, ql_eq, ql_add, qc_lt, qc_eq, qc_ge, qc_gt, qc_le, true_and, and_true, and_self, true_or, or_true, false_or, or_false, false_and, and_false, not_true_eq_false, not_false_eq_true, Classical.not_not, true_implies, false_implies, implies_true, exists_eq_left, exists_eq_left', Option.some.injEq, reduceIte, Nat.reduceEqDiff, Nat.reduceLT, Nat.reduceLeDiff, Nat.reduceAdd, Nat.reduceSub, Nat.reduceMul, eq_self, ne_eq, and_imp, forall_const, reduceCtorEq, am_w, List.map_cons, List.map_nil, List.sum_cons, List.sum_nil, Value.category, Nat.zero_le, Nat.le_refl]
      refine ⟨fun z => by omega, fun _ => (y.l (k := 2) (by omega) (by omega) fun h2 e2 x2 => by rw [e2]; exact nx).2⟩
  have key4 : ∀ (d i : Nat) (f : Nat → Int32) (l : List Int32), d + i = a_n S.1 → n + (l ++ (wNm S.1 ++ (wVal S.1 20 8 (vT S.1) ++ (wVal S.1 21 4 (vA S.1) ++ [Int32.ofNat 0])))).length ≤ 9300 →
      am_Ev tt 173 223 [some (.ref m), none, none, none, some (.int (Int32.ofNat i)), none] [] (ml m ad (am_cA h (ad 26) f) (l ++ (R0 i).flatMap (fun i => (fun i => (R0 (e_un (a_E S.1 i))).flatMap (fun k => LB 2 (e_nm (a_E S.1 i) k).toInt64) ++ LB 2 (Int64.ofNat 0)) (oo S.1 i)))) (am_pV (fun h' => ∃ f, h' = ml m ad (am_cA h (ad 26) f) (l ++ (wNm S.1 ++ (wVal S.1 20 8 (vT S.1) ++ (wVal S.1 21 4 (vA S.1) ++ [Int32.ofNat 0]))))) no_x) := by
    intro d
    induction d with
    | zero =>
      intro i f l e hl
      have : i = a_n S.1 := by omega
      subst this
      rw [fm_A wf.1 (g := fun i => (R0 (e_un (a_E S.1 i))).flatMap (fun k => LB 2 (e_nm (a_E S.1 i) k).toInt64) ++ LB 2 (Int64.ofNat 0))]
      show am_Ev tt 173 223 _ _ (ml m ad (am_cA h (ad 26) f) (l ++ wNm S.1)) _
      have y := xF f (l ++ wNm S.1)
      simp only [List.length_append, List.length_cons, List.length_nil] at hl y
      refine vc_173_223 tt _ _ _ _ _ ⟨y.1.1.1, fun _ => ⟨y.1.1.1, _, _, ct_putMarks y (t := 20) (w := 8) (v := vT S.1) (Or.inl ⟨rfl, rfl, rfl⟩) (by omega), fun k e => ?_, fun _ _ z => z⟩, fun z => absurd (by rw [y.1.2.1]; exact Int32.le_refl _) z⟩
      obtain ⟨f1, e1⟩ := e
      rw [ml_cA ne, cA_cA, ml_app] at e1
      have y1 : MX P k m ad S (n + ((l ++ wNm S.1) ++ wVal S.1 20 8 (vT S.1)).length) := by rw [e1]; exact xF f1 _
      simp only [List.length_append] at y1
      refine ⟨y1.1.1.1, _, _, ct_putMarks y1 (t := 21) (w := 4) (v := vA S.1) (Or.inr ⟨rfl, rfl, rfl⟩) (by omega), fun k2 e => ?_, fun _ _ z => z⟩
      obtain ⟨f2, e2⟩ := e
      rw [e1, ml_cA ne, cA_cA, ml_app] at e2
      have y2 : MX P k2 m ad S (n + (((l ++ wNm S.1) ++ wVal S.1 20 8 (vT S.1)) ++ wVal S.1 21 4 (vA S.1)).length) := by rw [e2]; exact xF f2 _
      simp only [List.length_append] at y2
      refine y2.b (by omega) rfl fun h3 e3 _ => ⟨f2, ?_⟩
      rw [e3, e2, ml_app]
      simp only [List.append_assoc]
    | succ d ih =>
      intro i f l e hl
      have y := xF f (l ++ (R0 i).flatMap (fun i => (fun i => (R0 (e_un (a_E S.1 i))).flatMap (fun k => LB 2 (e_nm (a_E S.1 i) k).toInt64) ++ LB 2 (Int64.ofNat 0)) (oo S.1 i)))
      have nx := ih (i + 1) f l (by omega) hl
      rw [fm_s, ← List.append_assoc] at nx
      have fl := fm_le (g := fun i => (fun i => (R0 (e_un (a_E S.1 i))).flatMap (fun k => LB 2 (e_nm (a_E S.1 i) k).toInt64) ++ LB 2 (Int64.ofNat 0)) (oo S.1 i)) (i := i) (n := a_n S.1) (by omega)
      rw [fm_A wf.1 (g := fun i => (R0 (e_un (a_E S.1 i))).flatMap (fun k => LB 2 (e_nm (a_E S.1 i) k).toInt64) ++ LB 2 (Int64.ofNat 0))] at fl
      have fl : _ + ((R0 (e_un (a_E S.1 (oo S.1 i)))).flatMap (fun k => LB 2 (e_nm (a_E S.1 (oo S.1 i)) k).toInt64) ++ LB 2 (Int64.ofNat 0)).length ≤ (wNm S.1).length := fl
      rw [List.length_append, List.length_append] at hl
      have s := y.1.1
      have q2 := y.1.2.1
      refine vc_173_223 tt _ _ _ _ _ ?_
      simp (disch := omega) only [s.1, q2, qi_lt, qi_le, qi_eq, qi_nn, qi_in, qi_add, qi_l, ql_i, ql_lt, ql_le, ql_eq, ql_add, qc_lt, qc_eq, qc_ge, qc_gt, qc_le, true_and, and_true, and_self, true_or, or_true, false_or, or_false, false_and, and_false, not_true_eq_false, not_false_eq_true, Classical.not_not, true_implies, false_implies, implies_true, exists_eq_left, exists_eq_left', Option.some.injEq, reduceIte, Nat.reduceEqDiff, Nat.reduceLT, Nat.reduceLeDiff, Nat.reduceAdd, Nat.reduceSub, Nat.reduceMul, eq_self, ne_eq, and_imp, forall_const, reduceCtorEq, am_w, List.map_cons, List.map_nil, List.sum_cons, List.sum_nil, Value.category, Nat.zero_le, Nat.le_refl]
      refine ⟨fun z => by omega, fun _ => ?_⟩
      have := key5 i (by omega) (e_un (a_E S.1 (oo S.1 i))) 0 f (l ++ (R0 i).flatMap (fun i => (fun i => (R0 (e_un (a_E S.1 i))).flatMap (fun k => LB 2 (e_nm (a_E S.1 i) k).toInt64) ++ LB 2 (Int64.ofNat 0)) (oo S.1 i))) _ (by omega) (by rw [List.length_append (as := l ++ _), List.length_append (as := l)]; omega) nx
      rw [show (R0 0).flatMap (fun k => LB 2 (e_nm (a_E S.1 (oo S.1 i)) k).toInt64) = [] from rfl, List.append_nil] at this
      exact this
  have keyT : ∀ (f : Nat → Int32) (l : List Int32), n + (l ++ ([Int32.ofNat 17] ++ (nb (1 + 2 * uns S.1) ++ ([Int32.ofNat 0] ++ (wNm S.1 ++ (wVal S.1 20 8 (vT S.1) ++ (wVal S.1 21 4 (vA S.1) ++ [Int32.ofNat 0]))))))).length ≤ 9300 →
      am_Ev tt 173 169 [some (.ref m), none, none, none, none, none] [] (ml m ad (am_cA h (ad 26) f) l) (am_pV (fun h' => ∃ f, h' = ml m ad (am_cA h (ad 26) f) (l ++ ([Int32.ofNat 17] ++ (nb (1 + 2 * uns S.1) ++ ([Int32.ofNat 0] ++ (wNm S.1 ++ (wVal S.1 20 8 (vT S.1) ++ (wVal S.1 21 4 (vA S.1) ++ [Int32.ofNat 0])))))))) no_x) := by
    intro f l hl
    have y := xF f l
    have hl' := hl
    simp only [List.length_append, List.length_cons, List.length_nil] at hl'
    refine vc_173_169 tt _ _ _ _ (y.b (by omega) rfl fun h1 e1 x1 => ?_)
    have k180 : ∀ (d i : Nat), d + i = a_n S.1 → am_Ev tt 173 180 [some (.ref m), none, none, some (.int (Int32.ofNat (1 + 2 * su (fun j => e_un (a_E S.1 j) + 1) (R0 i)))), some (.int (Int32.ofNat i)), none] [] h1 (am_pV (fun h' => ∃ f, h' = ml m ad (am_cA h (ad 26) f) (l ++ ([Int32.ofNat 17] ++ (nb (1 + 2 * uns S.1) ++ ([Int32.ofNat 0] ++ (wNm S.1 ++ (wVal S.1 20 8 (vT S.1) ++ (wVal S.1 21 4 (vA S.1) ++ [Int32.ofNat 0])))))))) no_x) := by
      intro d
      induction d with
      | zero =>
        intro i e
        have : i = a_n S.1 := by omega
        subst this
        refine vc_173_180 tt _ _ _ _ _ _ ⟨x1.1.1.1, fun _ => x1.n (k := 1 + 2 * uns S.1) (by omega) (by omega) (by rw [show su (fun j => e_un (a_E S.1 j) + 1) (R0 (a_n S.1)) = uns S.1 from rfl, qi_l (by omega)]) fun h2 e2 x2 => x2.b (by omega) rfl fun h3 e3 x3 => ?_, fun z => absurd (by rw [x1.1.2.1]; exact Int32.le_refl _) z⟩
        have := key4 (a_n S.1) 0 f (l ++ ([Int32.ofNat 17] ++ (nb (1 + 2 * uns S.1) ++ [Int32.ofNat 0]))) (by omega) (by simp only [List.append_assoc] at hl ⊢; exact hl)
        rw [show (R0 0).flatMap (fun i => (fun i => (R0 (e_un (a_E S.1 i))).flatMap (fun k => LB 2 (e_nm (a_E S.1 i) k).toInt64) ++ LB 2 (Int64.ofNat 0)) (oo S.1 i)) = [] from rfl, List.append_nil] at this
        rw [e3, e2, e1, ml_app, ml_app, ml_app]
        simp only [List.append_assoc] at this ⊢
        exact this
      | succ d ih =>
        intro i e
        have s := x1.1.1
        have q2 := x1.1.2.1
        have o2 := (x1.1.2.2.1 i (by omega)).2.1
        have i24 : i < 24 := by omega
        have nx := ih (i + 1) (by omega)
        rw [su_s] at nx
        refine vc_173_180 tt _ _ _ _ _ _ ?_
        simp (disch := omega) only [s.1, md_f s, q2, o2, i24, qi_mul, qi_lt, qi_le, qi_eq, qi_nn, qi_in, qi_add, qi_l, ql_i, ql_lt, ql_le, ql_eq, ql_add, qc_lt, qc_eq, qc_ge, qc_gt, qc_le, true_and, and_true, and_self, true_or, or_true, false_or, or_false, false_and, and_false, not_true_eq_false, not_false_eq_true, Classical.not_not, true_implies, false_implies, implies_true, exists_eq_left, exists_eq_left', Option.some.injEq, reduceIte, Nat.reduceEqDiff, Nat.reduceLT, Nat.reduceLeDiff, Nat.reduceAdd, Nat.reduceSub, Nat.reduceMul, eq_self, ne_eq, and_imp, forall_const, reduceCtorEq, am_w, List.map_cons, List.map_nil, List.sum_cons, List.sum_nil, Value.category, Nat.zero_le, Nat.le_refl]
        refine ⟨fun z => by omega, fun _ => ?_⟩
        rw [show 1 + 2 * su (fun j => e_un (a_E S.1 j) + 1) (R0 i) + (2 * e_un (a_E S.1 i) + 2) = 1 + 2 * (su (fun j => e_un (a_E S.1 j) + 1) (R0 i) + (e_un (a_E S.1 i) + 1)) by omega]
        exact nx
    have := k180 (a_n S.1) 0 (by omega)
    exact this
  -- the rows of those without bytes
  have eW : (oK S.1).length < a_n S.1 → wEm S.1 = wRow 14 (a_n S.1) (fun j => decide ((oK S.1).length ≤ j)) ++ ((if 0 < cn (fun j => decide (e_kd (a_E S.1 (oo S.1 ((oK S.1).length + j))) = 0)) (a_n S.1 - (oK S.1).length) then wRow 15 (a_n S.1 - (oK S.1).length) (fun j => decide (e_kd (a_E S.1 (oo S.1 ((oK S.1).length + j))) = 0)) else []) ++ (if 0 < cn (fun j => e_an (a_E S.1 (oo S.1 ((oK S.1).length + j)))) (a_n S.1 - (oK S.1).length) then wRow 16 (a_n S.1 - (oK S.1).length) (fun j => e_an (a_E S.1 (oo S.1 ((oK S.1).length + j)))) else [])) := fun z => by rw [wEm, if_pos z]
  generalize hT : ([Int32.ofNat 17] ++ (nb (1 + 2 * uns S.1) ++ ([Int32.ofNat 0] ++ (wNm S.1 ++ (wVal S.1 20 8 (vT S.1) ++ (wVal S.1 21 4 (vA S.1) ++ [Int32.ofNat 0])))))) = T at keyT
  have key3 : ∀ (d i : Nat) (f : Nat → Int32) (l : List Int32), d + i = a_n S.1 - (oK S.1).length → (∀ j, j < i → f j = b01 (e_an (a_E S.1 (oo S.1 ((oK S.1).length + j))))) → n + (l ++ ((if 0 < cn (fun j => e_an (a_E S.1 (oo S.1 ((oK S.1).length + j)))) (a_n S.1 - (oK S.1).length) then wRow 16 (a_n S.1 - (oK S.1).length) (fun j => e_an (a_E S.1 (oo S.1 ((oK S.1).length + j)))) else []) ++ T)).length ≤ 9300 →
      am_Ev tt 173 124 [some (.ref m), some (.int (Int32.ofNat (oK S.1).length)), some (.int (Int32.ofNat (a_n S.1 - (oK S.1).length))), some (.int (Int32.ofNat i)), none, none] [] (ml m ad (am_cA h (ad 26) f) l) (am_pV (fun h' => ∃ f, h' = ml m ad (am_cA h (ad 26) f) (l ++ ((if 0 < cn (fun j => e_an (a_E S.1 (oo S.1 ((oK S.1).length + j)))) (a_n S.1 - (oK S.1).length) then wRow 16 (a_n S.1 - (oK S.1).length) (fun j => e_an (a_E S.1 (oo S.1 ((oK S.1).length + j)))) else []) ++ T))) no_x) := by
    intro d
    induction d with
    | zero =>
      intro i f l e hf hl
      have y := xF f l
      have : i = a_n S.1 - (oK S.1).length := by omega
      subst this
      refine vc_173_124 tt _ _ _ _ _ _ _ ⟨fun _ => ⟨y.1.1.1, _, _, ct_mbitsSet y.1.1 (by omega), fun r k e => ?_, fun _ _ z => z⟩, fun z => absurd (Int32.le_refl _) z⟩
      obtain ⟨er, ek⟩ := e
      rw [fA, cn_b hf] at er
      have hc := cn_le (fun j => e_an (a_E S.1 (oo S.1 ((oK S.1).length + j)))) (a_n S.1 - (oK S.1).length)
      subst er ek
      rw [qi_le (by omega) (by omega)]
      refine ⟨fun z => ?_, fun z => ⟨y.1.1.1, _, _, ct_putRow y (t := 16) (k := a_n S.1 - (oK S.1).length) (g := fun j => e_an (a_E S.1 (oo S.1 ((oK S.1).length + j)))) (by omega) ?_ (fun j hj => by rw [fA]; exact hf j hj), fun k e => ?_, fun _ _ z => z⟩⟩
      · rw [if_neg (by omega), List.nil_append] at hl ⊢
        exact keyT f l hl
      · rw [if_pos (by omega), List.length_append, List.length_append] at hl
        omega
      · rw [if_pos (by omega)] at hl ⊢
        rw [ml_app] at e
        have := keyT f (l ++ wRow 16 (a_n S.1 - (oK S.1).length) (fun j => e_an (a_E S.1 (oo S.1 ((oK S.1).length + j))))) (by rw [List.append_assoc]; exact hl)
        rw [e]
        simp only [List.append_assoc] at this ⊢
        exact this
    | succ d ih =>
      intro i f l e hf hl
      have y := xF f l
      have fSl := fS f l
      have A1 := fA f l
      have nx := fun f' => ih (i + 1) f' l (by omega)
      generalize hk : ml m ad (am_cA h (ad 26) f) l = k at y fSl A1 ⊢
      have s := y.1.1
      have yo := y.2.2.2 ((oK S.1).length + i) (by omega)
      have hlt := oo_lt wf.1 (j := (oK S.1).length + i) (by omega)
      have o6 := (y.o (j := (oK S.1).length + i) (by omega)).2.2.2.2.2.1
      have i24 : i < 24 := by omega
      have j24 : (oK S.1).length + i < 24 := by omega
      have o24 : oo S.1 ((oK S.1).length + i) < 24 := by omega
      refine vc_173_124 tt _ _ _ _ _ _ _ ?_
      simp (disch := omega) only [s.1, md_f s, yo, o6, i24, j24, o24, b01_a, qi_lt, qi_le, qi_eq, qi_nn, qi_in, qi_add, qi_l, ql_i, ql_lt, ql_le, ql_eq, ql_add, qc_lt, qc_eq, qc_ge, qc_gt, qc_le, true_and, and_true, and_self, true_or, or_true, false_or, or_false, false_and, and_false, not_true_eq_false, not_false_eq_true, Classical.not_not, true_implies, false_implies, implies_true, exists_eq_left, exists_eq_left', Option.some.injEq, reduceIte, Nat.reduceEqDiff, Nat.reduceLT, Nat.reduceLeDiff, Nat.reduceAdd, Nat.reduceSub, Nat.reduceMul, eq_self, ne_eq, and_imp, forall_const, reduceCtorEq, am_w, List.map_cons, List.map_nil, List.sum_cons, List.sum_nil, Value.category, Nat.zero_le, Nat.le_refl]
      refine ⟨fun z => by omega, fun _ => ?_⟩
      rw [fSl]
      refine nx _ (fun j hj => ?_) hl
      unfold va_up
      split
      · next c => rw [c]
      · exact hf j (by omega)
  have key2 : ∀ (d i : Nat) (f : Nat → Int32) (l : List Int32), d + i = a_n S.1 - (oK S.1).length → (∀ j, j < i → f j = b01 (decide (e_kd (a_E S.1 (oo S.1 ((oK S.1).length + j))) = 0))) → n + (l ++ ((if 0 < cn (fun j => decide (e_kd (a_E S.1 (oo S.1 ((oK S.1).length + j))) = 0)) (a_n S.1 - (oK S.1).length) then wRow 15 (a_n S.1 - (oK S.1).length) (fun j => decide (e_kd (a_E S.1 (oo S.1 ((oK S.1).length + j))) = 0)) else []) ++ ((if 0 < cn (fun j => e_an (a_E S.1 (oo S.1 ((oK S.1).length + j)))) (a_n S.1 - (oK S.1).length) then wRow 16 (a_n S.1 - (oK S.1).length) (fun j => e_an (a_E S.1 (oo S.1 ((oK S.1).length + j)))) else []) ++ T))).length ≤ 9300 →
      am_Ev tt 173 69 [some (.ref m), some (.int (Int32.ofNat (oK S.1).length)), some (.int (Int32.ofNat (a_n S.1 - (oK S.1).length))), some (.int (Int32.ofNat i)), none, none] [] (ml m ad (am_cA h (ad 26) f) l) (am_pV (fun h' => ∃ f, h' = ml m ad (am_cA h (ad 26) f) (l ++ ((if 0 < cn (fun j => decide (e_kd (a_E S.1 (oo S.1 ((oK S.1).length + j))) = 0)) (a_n S.1 - (oK S.1).length) then wRow 15 (a_n S.1 - (oK S.1).length) (fun j => decide (e_kd (a_E S.1 (oo S.1 ((oK S.1).length + j))) = 0)) else []) ++ ((if 0 < cn (fun j => e_an (a_E S.1 (oo S.1 ((oK S.1).length + j)))) (a_n S.1 - (oK S.1).length) then wRow 16 (a_n S.1 - (oK S.1).length) (fun j => e_an (a_E S.1 (oo S.1 ((oK S.1).length + j)))) else []) ++ T)))) no_x) := by
    intro d
    induction d with
    | zero =>
      intro i f l e hf hl
      have y := xF f l
      have : i = a_n S.1 - (oK S.1).length := by omega
      subst this
      refine vc_173_69 tt _ _ _ _ _ _ _ ⟨fun _ => ⟨y.1.1.1, _, _, ct_mbitsSet y.1.1 (by omega), fun r k e => ?_, fun _ _ z => z⟩, fun z => absurd (Int32.le_refl _) z⟩
      obtain ⟨er, ek⟩ := e
      rw [fA, cn_b hf] at er
      have hc := cn_le (fun j => decide (e_kd (a_E S.1 (oo S.1 ((oK S.1).length + j))) = 0)) (a_n S.1 - (oK S.1).length)
      subst er ek
      rw [qi_le (by omega) (by omega)]
      refine ⟨fun z => vc_173_122 tt _ _ _ _ _ _ ?_, fun z => ⟨y.1.1.1, _, _, ct_putRow y (t := 15) (k := a_n S.1 - (oK S.1).length) (g := fun j => decide (e_kd (a_E S.1 (oo S.1 ((oK S.1).length + j))) = 0)) (by omega) ?_ (fun j hj => by rw [fA]; exact hf j hj), fun k e => vc_173_122 tt _ _ _ _ _ _ ?_, fun _ _ z => z⟩⟩
      · rw [if_neg (by omega), List.nil_append] at hl ⊢
        exact key3 _ 0 f l (Nat.add_zero _) (fun j hj => absurd hj (Nat.not_lt_zero j)) hl
      · rw [if_pos (by omega), List.length_append, List.length_append] at hl
        omega
      · rw [if_pos (by omega)] at hl ⊢
        rw [ml_app] at e
        have := key3 _ 0 f (l ++ wRow 15 (a_n S.1 - (oK S.1).length) (fun j => decide (e_kd (a_E S.1 (oo S.1 ((oK S.1).length + j))) = 0))) (Nat.add_zero _) (fun j hj => absurd hj (Nat.not_lt_zero j)) (by rw [List.append_assoc]; exact hl)
        rw [e]
        simp only [List.append_assoc] at this ⊢
        exact this
    | succ d ih =>
      intro i f l e hf hl
      have y := xF f l
      have fSl := fS f l
      have nx := fun f' => ih (i + 1) f' l (by omega)
      generalize hk : ml m ad (am_cA h (ad 26) f) l = k at y fSl ⊢
      have s := y.1.1
      have yo := y.2.2.2 ((oK S.1).length + i) (by omega)
      have hlt := oo_lt wf.1 (j := (oK S.1).length + i) (by omega)
      have o1 := (y.o (j := (oK S.1).length + i) (by omega)).1
      have k1 := (wf.1.2.1 _ hlt).1
      have i24 : i < 24 := by omega
      have j24 : (oK S.1).length + i < 24 := by omega
      have o24 : oo S.1 ((oK S.1).length + i) < 24 := by omega
      refine vc_173_69 tt _ _ _ _ _ _ _ ?_
      simp (disch := omega) only [s.1, md_f s, yo, o1, i24, j24, o24, qi_lt, qi_le, qi_eq, qi_nn, qi_in, qi_add, qi_l, ql_i, ql_lt, ql_le, ql_eq, ql_add, qc_lt, qc_eq, qc_ge, qc_gt, qc_le, true_and, and_true, and_self, true_or, or_true, false_or, or_false, false_and, and_false, not_true_eq_false, not_false_eq_true, Classical.not_not, true_implies, false_implies, implies_true, exists_eq_left, exists_eq_left', Option.some.injEq, reduceIte, Nat.reduceEqDiff, Nat.reduceLT, Nat.reduceLeDiff, Nat.reduceAdd, Nat.reduceSub, Nat.reduceMul, eq_self, ne_eq, and_imp, forall_const, reduceCtorEq, am_w, List.map_cons, List.map_nil, List.sum_cons, List.sum_nil, Value.category, Nat.zero_le, Nat.le_refl]
      refine ⟨fun z => by omega, fun _ => ⟨fun z => ?_, fun z => ?_⟩⟩
      · rw [fSl]
        refine nx _ (fun j hj => ?_) hl
        unfold va_up
        split
        · next c => rw [c, decide_eq_false z]; rfl
        · exact hf j (by omega)
      · rw [fSl]
        refine nx _ (fun j hj => ?_) hl
        unfold va_up
        split
        · next c => rw [c, decide_eq_true z]; rfl
        · exact hf j (by omega)
  have key1 : (oK S.1).length < a_n S.1 → ∀ (d i : Nat) (f : Nat → Int32) (l : List Int32), d + i = a_n S.1 → (∀ j, j < i → f j = b01 (decide ((oK S.1).length ≤ j))) → n + (l ++ (wEm S.1 ++ T)).length ≤ 9300 →
      am_Ev tt 173 27 [some (.ref m), some (.int (Int32.ofNat (oK S.1).length)), some (.int (Int32.ofNat (a_n S.1 - (oK S.1).length))), some (.int (Int32.ofNat i)), none, none] [] (ml m ad (am_cA h (ad 26) f) l) (am_pV (fun h' => ∃ f, h' = ml m ad (am_cA h (ad 26) f) (l ++ (wEm S.1 ++ T))) no_x) := by
    intro hKn d
    rw [eW hKn]
    induction d with
    | zero =>
      intro i f l e hf hl
      have y := xF f l
      have : i = a_n S.1 := by omega
      subst this
      have hl' := hl
      rw [List.append_assoc, List.length_append, List.length_append] at hl'
      refine vc_173_27 tt _ _ _ _ _ _ _ ⟨y.1.1.1, fun _ => ⟨y.1.1.1, y.1.1.1, ?_⟩, fun z => absurd (by rw [y.1.2.1]; exact Int32.le_refl _) z⟩
      rw [y.1.2.1]
      refine ⟨_, _, ct_putRow y (t := 14) (k := a_n S.1) (g := fun j => decide ((oK S.1).length ≤ j)) n24 (by omega) (fun j hj => by rw [fA]; exact hf j hj), fun k e => ?_, fun _ _ z => z⟩
      rw [ml_app] at e
      have := key2 _ 0 f (l ++ wRow 14 (a_n S.1) (fun j => decide ((oK S.1).length ≤ j))) (Nat.add_zero _) (fun j hj => absurd hj (Nat.not_lt_zero j)) (by simp only [List.append_assoc] at hl ⊢; exact hl)
      rw [e]
      simp only [List.append_assoc] at this ⊢
      exact this
    | succ d ih =>
      intro i f l e hf hl
      have y := xF f l
      have fSl := fS f l
      have nx := fun f' => ih (i + 1) f' l (by omega)
      generalize hk : ml m ad (am_cA h (ad 26) f) l = k at y fSl ⊢
      have s := y.1.1
      have q2 := y.1.2.1
      have i24 : i < 24 := by omega
      refine vc_173_27 tt _ _ _ _ _ _ _ ?_
      simp (disch := omega) only [s.1, md_f s, q2, i24, qi_lt, qi_le, qi_eq, qi_nn, qi_in, qi_add, qi_l, ql_i, ql_lt, ql_le, ql_eq, ql_add, qc_lt, qc_eq, qc_ge, qc_gt, qc_le, true_and, and_true, and_self, true_or, or_true, false_or, or_false, false_and, and_false, not_true_eq_false, not_false_eq_true, Classical.not_not, true_implies, false_implies, implies_true, exists_eq_left, exists_eq_left', Option.some.injEq, reduceIte, Nat.reduceEqDiff, Nat.reduceLT, Nat.reduceLeDiff, Nat.reduceAdd, Nat.reduceSub, Nat.reduceMul, eq_self, ne_eq, and_imp, forall_const, reduceCtorEq, am_w, List.map_cons, List.map_nil, List.sum_cons, List.sum_nil, Value.category, Nat.zero_le, Nat.le_refl]
      refine ⟨fun z => by omega, fun _ => ⟨fun z => ?_, fun z => ?_⟩⟩
      · rw [fSl]
        refine nx _ (fun j hj => ?_) hl
        unfold va_up
        split
        · next c => rw [c, decide_eq_false (by omega)]; rfl
        · exact hf j (by omega)
      · rw [fSl]
        refine nx _ (fun j hj => ?_) hl
        unfold va_up
        split
        · next c => rw [c, decide_eq_true (by omega)]; rfl
        · exact hf j (by omega)
  have eE : wE S.1 = [Int32.ofNat 5] ++ (nb (a_n S.1) ++ (wEm S.1 ++ T)) := by rw [wE, ← hT]
  rw [eE] at hn ⊢
  have hn' := hn
  simp only [List.length_append, List.length_cons, List.length_nil] at hn'
  refine vc_173_0 tt _ _ h _ _ (x.b (by omega) rfl fun h1 e1 x1 => ⟨x1.1.1.1, x1.n (k := a_n S.1) (by omega) (by omega) (by rw [x1.1.2.1, qi_l (by omega)]) fun h2 e2 x2 => ?_⟩)
  have e2' : h2 = ml m ad (am_cA h (ad 26) (am_A h (ad 26))) ([Int32.ofNat 5] ++ nb (a_n S.1)) := by rw [cA_id, e2, e1, ml_app]
  rw [x2.1.2.1, qi_sub hK, qi_le (by omega) (by omega), e2']
  refine ⟨by rw [← e2']; exact x2.1.1.1, fun z => ?_, fun z => ?_⟩
  · rw [show wEm S.1 = [] by rw [wEm, if_neg (by omega)], List.nil_append] at hn ⊢
    have := keyT (am_A h (ad 26)) ([Int32.ofNat 5] ++ nb (a_n S.1)) (by rw [List.append_assoc]; exact hn)
    rw [List.append_assoc] at this
    exact this
  · have := key1 (by omega) (a_n S.1) 0 (am_A h (ad 26)) ([Int32.ofNat 5] ++ nb (a_n S.1)) (by omega) (fun j hj => absurd hj (Nat.not_lt_zero j)) (by rw [List.append_assoc]; exact hn)
    rw [List.append_assoc] at this
    exact this
end MR2
