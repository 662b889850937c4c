/-! deps: 18d -/
/-! ===== the reference writes: streams ===== -/
/-! 170 yX10_putStreams -/
theorem vc_170_0 (tt : Nat → Nat) (a0 : Nat) (a1 : Int32) (h : am_H) (Q : am_H → Prop) (Qx : String → am_H → Prop) (q :
  (am_K h a0 = 11 ∧ ∃ (Q2 : am_H → Prop) (X2 : String → am_H → Prop), am_Ct tt 159 [.ref a0, .int (Int32.ofNat 4)] h (am_pV Q2 X2) ∧ (∀ h1, Q2 h1 →
   (am_K h1 a0 = 11 ∧ ∃ (Q4 : am_H → Prop) (X4 : String → am_H → Prop), am_Ct tt 159 [.ref a0, .int (Int32.ofNat 6)] h1 (am_pV Q4 X4) ∧ (∀ h3, Q4 h3 →
    (am_K h3 a0 = 11 ∧ ∃ (Q6 : am_H → Prop) (X6 : String → am_H → Prop), am_Ct tt 160 [.ref a0, .long (Int64.ofNat 0)] h3 (am_pV Q6 X6) ∧ (∀ h5, Q6 h5 →
     (am_K h5 a0 = 11 ∧ ∃ (Q8 : am_H → Prop) (X8 : String → am_H → Prop), am_Ct tt 160 [.ref a0, .long (a1).toInt64] h5 (am_pV Q8 X8) ∧ (∀ h7, Q8 h7 →
      (am_K h7 a0 = 11 ∧ ∃ (Q10 : am_H → Prop) (X10 : String → am_H → Prop), am_Ct tt 159 [.ref a0, .int (Int32.ofNat 9)] h7 (am_pV Q10 X10) ∧ (∀ h9, Q10 h9 →
       am_Ev tt 170 32 [some (.ref a0), some (.int a1), some (.int (Int32.ofNat 0)), some (.int (Int32.ofNat 0)), none] [] h9 (am_pV Q Qx)) ∧ (∀ E11 h9, X10 E11 h9 → Qx E11 h9))) ∧ (∀ E12 h7, X8 E12 h7 → Qx E12 h7))) ∧ (∀ E13 h5, X6 E13 h5 → Qx E13 h5))) ∧ (∀ E14 h3, X4 E14 h3 → Qx E14 h3))) ∧ (∀ E15 h1, X2 E15 h1 → Qx E15 h1))) :
  am_Ev tt 170 0 [some (.ref a0), some (.int a1), none, none, none] [] h (am_pV Q Qx) := am_vc 23 [(32, [true, true, true, true, false]), (69, [true, true, false, true, false]), (75, [true, true, true, true, false]), (111, [true, false, true, true, false]), (130, [true, false, true, true, false]), (144, [true, false, true, true, false]), (153, [true, false, true, true, true]), (201, [true, false, true, true, false]), (230, [true, false, false, true, false]), (254, [true, false, false, true, false]), (268, [true, false, false, true, false]), (347, [true, false, false, true, false]), (353, [true, false, false, false, false]), (366, [true, false, false, true, false]), (422, [true, false, false, true, false])] q
theorem vc_170_32 (tt : Nat → Nat) (a0 : Nat) (a1 : Int32) (a2 : Int32) (a3 : Int32) (h : am_H) (Q : am_H → Prop) (Qx : String → am_H → Prop) (q :
  (((Int32.ofNat 6) ≤ a3 →
   (am_K h a0 = 11 ∧ ∃ (Q2 : am_H → Prop) (X2 : String → am_H → Prop), am_Ct tt 159 [.ref a0, .int (Int32.ofNat 0)] h (am_pV Q2 X2) ∧ (∀ h1, Q2 h1 →
    (am_K h1 a0 = 11 ∧ ∃ (Q4 : am_H → Prop) (X4 : String → am_H → Prop), am_Ct tt 159 [.ref a0, .int (Int32.ofNat 7)] h1 (am_pV Q4 X4) ∧ (∀ h3, Q4 h3 →
     (am_K h3 a0 = 11 ∧ ∃ (Q6 : am_H → Prop) (X6 : String → am_H → Prop), am_Ct tt 159 [.ref a0, .int (Int32.ofNat 11)] h3 (am_pV Q6 X6) ∧ (∀ h5, Q6 h5 →
      (am_K h5 a0 = 11 ∧ ∃ (Q8 : am_H → Prop) (X8 : String → am_H → Prop), am_Ct tt 160 [.ref a0, .long (a1).toInt64] h5 (am_pV Q8 X8) ∧ (∀ h7, Q8 h7 →
       (am_K h7 a0 = 11 ∧ ∃ (Q10 : am_H → Prop) (X10 : String → am_H → Prop), am_Ct tt 159 [.ref a0, .int (Int32.ofNat 0)] h7 (am_pV Q10 X10) ∧ (∀ h9, Q10 h9 →
        am_Ev tt 170 111 [some (.ref a0), none, some (.int a2), some (.int (Int32.ofNat 0)), none] [] h9 (am_pV Q Qx)) ∧ (∀ E11 h9, X10 E11 h9 → Qx E11 h9))) ∧ (∀ E12 h7, X8 E12 h7 → Qx E12 h7))) ∧ (∀ E13 h5, X6 E13 h5 → Qx E13 h5))) ∧ (∀ E14 h3, X4 E14 h3 → Qx E14 h3))) ∧ (∀ E15 h1, X2 E15 h1 → Qx E15 h1))) ∧
  (¬ ((Int32.ofNat 6) ≤ a3) →
   (am_K h a0 = 11 ∧ ∃ (Q17 : Int32 → am_H → Prop) (X17 : String → am_H → Prop), am_Ct tt 164 [.ref a0, .int a3] h (am_pI Q17 X17) ∧ (∀ x18 h16, Q17 x18 h16 →
    ((x18 ≤ (Int32.ofNat 0) →
     am_Ev tt 170 75 [some (.ref a0), some (.int a1), some (.int a2), some (.int a3), none] [] h16 (am_pV Q Qx)) ∧
    (¬ (x18 ≤ (Int32.ofNat 0)) →
     (am_K h16 a0 = 11 ∧ ∃ (Q20 : Int32 → am_H → Prop) (X20 : String → am_H → Prop), am_Ct tt 165 [.ref a0, .int a3] h16 (am_pI Q20 X20) ∧ (∀ x21 h19, Q20 x21 h19 →
      (am_K h19 a0 = 11 ∧ ∃ (Q23 : am_H → Prop) (X23 : String → am_H → Prop), am_Ct tt 160 [.ref a0, .long (x21).toInt64] h19 (am_pV Q23 X23) ∧ (∀ h22, Q23 h22 →
       ((¬ a2 = (Int32.ofNat 0) →
        am_Ev tt 170 69 [some (.ref a0), some (.int a1), none, some (.int a3), none] [] h22 (am_pV Q Qx)) ∧
       (¬ (¬ a2 = (Int32.ofNat 0)) →
        (am_K h22 a0 = 11 ∧ ∃ (Q25 : Int32 → am_H → Prop) (X25 : String → am_H → Prop), am_Ct tt 164 [.ref a0, .int a3] h22 (am_pI Q25 X25) ∧ (∀ x26 h24, Q25 x26 h24 →
         ((x26 ≤ (Int32.ofNat 1) →
          am_Ev tt 170 75 [some (.ref a0), some (.int a1), some (.int (Int32.ofNat 0)), some (.int a3), none] [] h24 (am_pV Q Qx)) ∧
         (¬ (x26 ≤ (Int32.ofNat 1)) →
          am_Ev tt 170 69 [some (.ref a0), some (.int a1), none, some (.int a3), none] [] h24 (am_pV Q Qx)))) ∧ (∀ E27 h24, X25 E27 h24 → Qx E27 h24))))) ∧ (∀ E28 h22, X23 E28 h22 → Qx E28 h22))) ∧ (∀ E29 h19, X20 E29 h19 → Qx E29 h19))))) ∧ (∀ E30 h16, X17 E30 h16 → Qx E30 h16))))) :
  am_Ev tt 170 32 [some (.ref a0), some (.int a1), some (.int a2), some (.int a3), none] [] h (am_pV Q Qx) := am_vc 25 [(32, [true, true, true, true, false]), (69, [true, true, false, true, false]), (75, [true, true, true, true, false]), (111, [true, false, true, true, false]), (130, [true, false, true, true, false]), (144, [true, false, true, true, false]), (153, [true, false, true, true, true]), (201, [true, false, true, true, false]), (230, [true, false, false, true, false]), (254, [true, false, false, true, false]), (268, [true, false, false, true, false]), (347, [true, false, false, true, false]), (353, [true, false, false, false, false]), (366, [true, false, false, true, false]), (422, [true, false, false, true, false])] q
theorem vc_170_69 (tt : Nat → Nat) (a0 : Nat) (a1 : Int32) (a3 : Int32) (h : am_H) (Q : am_H → Prop) (Qx : String → am_H → Prop) (q :
  am_Ev tt 170 75 [some (.ref a0), some (.int a1), some (.int (Int32.ofNat 1)), some (.int a3), none] [] h (am_pV Q Qx)) :
  am_Ev tt 170 69 [some (.ref a0), some (.int a1), none, some (.int a3), none] [] h (am_pV Q Qx) := am_vc 6 [(32, [true, true, true, true, false]), (69, [true, true, false, true, false]), (75, [true, true, true, true, false]), (111, [true, false, true, true, false]), (130, [true, false, true, true, false]), (144, [true, false, true, true, false]), (153, [true, false, true, true, true]), (201, [true, false, true, true, false]), (230, [true, false, false, true, false]), (254, [true, false, false, true, false]), (268, [true, false, false, true, false]), (347, [true, false, false, true, false]), (353, [true, false, false, false, false]), (366, [true, false, false, true, false]), (422, [true, false, false, true, false])] q
theorem vc_170_75 (tt : Nat → Nat) (a0 : Nat) (a1 : Int32) (a2 : Int32) (a3 : Int32) (h : am_H) (Q : am_H → Prop) (Qx : String → am_H → Prop) (q :
  am_Ev tt 170 32 [some (.ref a0), some (.int a1), some (.int a2), some (.int (a3 + (Int32.ofNat 1))), none] [] h (am_pV Q Qx)) :
  am_Ev tt 170 75 [some (.ref a0), some (.int a1), some (.int a2), some (.int a3), none] [] h (am_pV Q Qx) := am_vc 5 [(32, [true, true, true, true, false]), (69, [true, true, false, true, false]), (75, [true, true, true, true, false]), (111, [true, false, true, true, false]), (130, [true, false, true, true, false]), (144, [true, false, true, true, false]), (153, [true, false, true, true, true]), (201, [true, false, true, true, false]), (230, [true, false, false, true, false]), (254, [true, false, false, true, false]), (268, [true, false, false, true, false]), (347, [true, false, false, true, false]), (353, [true, false, false, false, false]), (366, [true, false, false, true, false]), (422, [true, false, false, true, false])] q
theorem vc_170_111 (tt : Nat → Nat) (a0 : Nat) (a2 : Int32) (a3 : Int32) (h : am_H) (Q : am_H → Prop) (Qx : String → am_H → Prop) (q :
  (((Int32.ofNat 6) ≤ a3 →
   (am_K h a0 = 11 ∧ ∃ (Q2 : am_H → Prop) (X2 : String → am_H → Prop), am_Ct tt 159 [.ref a0, .int (Int32.ofNat 12)] h (am_pV Q2 X2) ∧ (∀ h1, Q2 h1 →
    am_Ev tt 170 144 [some (.ref a0), none, some (.int a2), some (.int (Int32.ofNat 0)), none] [] h1 (am_pV Q Qx)) ∧ (∀ E3 h1, X2 E3 h1 → Qx E3 h1))) ∧
  (¬ ((Int32.ofNat 6) ≤ a3) →
   (am_K h a0 = 11 ∧ ∃ (Q5 : Int32 → am_H → Prop) (X5 : String → am_H → Prop), am_Ct tt 164 [.ref a0, .int a3] h (am_pI Q5 X5) ∧ (∀ x6 h4, Q5 x6 h4 →
    ((x6 ≤ (Int32.ofNat 0) →
     am_Ev tt 170 130 [some (.ref a0), none, some (.int a2), some (.int a3), none] [] h4 (am_pV Q Qx)) ∧
    (¬ (x6 ≤ (Int32.ofNat 0)) →
     (am_K h4 a0 = 11 ∧ ∃ (Q8 : am_H → Prop) (X8 : String → am_H → Prop), am_Ct tt 169 [.ref a0, .int a3] h4 (am_pV Q8 X8) ∧ (∀ h7, Q8 h7 →
      am_Ev tt 170 130 [some (.ref a0), none, some (.int a2), some (.int a3), none] [] h7 (am_pV Q Qx)) ∧ (∀ E9 h7, X8 E9 h7 → Qx E9 h7))))) ∧ (∀ E10 h4, X5 E10 h4 → Qx E10 h4))))) :
  am_Ev tt 170 111 [some (.ref a0), none, some (.int a2), some (.int a3), none] [] h (am_pV Q Qx) := am_vc 13 [(32, [true, true, true, true, false]), (69, [true, true, false, true, false]), (75, [true, true, true, true, false]), (111, [true, false, true, true, false]), (130, [true, false, true, true, false]), (144, [true, false, true, true, false]), (153, [true, false, true, true, true]), (201, [true, false, true, true, false]), (230, [true, false, false, true, false]), (254, [true, false, false, true, false]), (268, [true, false, false, true, false]), (347, [true, false, false, true, false]), (353, [true, false, false, false, false]), (366, [true, false, false, true, false]), (422, [true, false, false, true, false])] q
theorem vc_170_130 (tt : Nat → Nat) (a0 : Nat) (a2 : Int32) (a3 : Int32) (h : am_H) (Q : am_H → Prop) (Qx : String → am_H → Prop) (q :
  am_Ev tt 170 111 [some (.ref a0), none, some (.int a2), some (.int (a3 + (Int32.ofNat 1))), none] [] h (am_pV Q Qx)) :
  am_Ev tt 170 130 [some (.ref a0), none, some (.int a2), some (.int a3), none] [] h (am_pV Q Qx) := am_vc 5 [(32, [true, true, true, true, false]), (69, [true, true, false, true, false]), (75, [true, true, true, true, false]), (111, [true, false, true, true, false]), (130, [true, false, true, true, false]), (144, [true, false, true, true, false]), (153, [true, false, true, true, true]), (201, [true, false, true, true, false]), (230, [true, false, false, true, false]), (254, [true, false, false, true, false]), (268, [true, false, false, true, false]), (347, [true, false, false, true, false]), (353, [true, false, false, false, false]), (366, [true, false, false, true, false]), (422, [true, false, false, true, false])] q
theorem vc_170_144 (tt : Nat → Nat) (a0 : Nat) (a2 : Int32) (a3 : Int32) (h : am_H) (Q : am_H → Prop) (Qx : String → am_H → Prop) (q :
  (((Int32.ofNat 6) ≤ a3 →
   (am_K h a0 = 11 ∧ ∃ (Q2 : am_H → Prop) (X2 : String → am_H → Prop), am_Ct tt 159 [.ref a0, .int (Int32.ofNat 0)] h (am_pV Q2 X2) ∧ (∀ h1, Q2 h1 →
    (am_K h1 a0 = 11 ∧ ∃ (Q4 : am_H → Prop) (X4 : String → am_H → Prop), am_Ct tt 159 [.ref a0, .int (Int32.ofNat 8)] h1 (am_pV Q4 X4) ∧ (∀ h3, Q4 h3 →
     ((a2 = (Int32.ofNat 0) →
      am_Ev tt 170 353 [some (.ref a0), none, none, none, none] [] h3 (am_pV Q Qx)) ∧
     (¬ (a2 = (Int32.ofNat 0)) →
      (am_K h3 a0 = 11 ∧ ∃ (Q6 : am_H → Prop) (X6 : String → am_H → Prop), am_Ct tt 159 [.ref a0, .int (Int32.ofNat 13)] h3 (am_pV Q6 X6) ∧ (∀ h5, Q6 h5 →
       am_Ev tt 170 230 [some (.ref a0), none, none, some (.int (Int32.ofNat 0)), none] [] h5 (am_pV Q Qx)) ∧ (∀ E7 h5, X6 E7 h5 → Qx E7 h5))))) ∧ (∀ E8 h3, X4 E8 h3 → Qx E8 h3))) ∧ (∀ E9 h1, X2 E9 h1 → Qx E9 h1))) ∧
  (¬ ((Int32.ofNat 6) ≤ a3) →
   am_Ev tt 170 153 [some (.ref a0), none, some (.int a2), some (.int a3), some (.int (Int32.ofNat 0))] [] h (am_pV Q Qx)))) :
  am_Ev tt 170 144 [some (.ref a0), none, some (.int a2), some (.int a3), none] [] h (am_pV Q Qx) := am_vc 19 [(32, [true, true, true, true, false]), (69, [true, true, false, true, false]), (75, [true, true, true, true, false]), (111, [true, false, true, true, false]), (130, [true, false, true, true, false]), (144, [true, false, true, true, false]), (153, [true, false, true, true, true]), (201, [true, false, true, true, false]), (230, [true, false, false, true, false]), (254, [true, false, false, true, false]), (268, [true, false, false, true, false]), (347, [true, false, false, true, false]), (353, [true, false, false, false, false]), (366, [true, false, false, true, false]), (422, [true, false, false, true, false])] q
theorem vc_170_153 (tt : Nat → Nat) (a0 : Nat) (a2 : Int32) (a3 : Int32) (a4 : Int32) (h : am_H) (Q : am_H → Prop) (Qx : String → am_H → Prop) (q :
  (am_K h a0 = 11 ∧ ∃ (Q2 : Int32 → am_H → Prop) (X2 : String → am_H → Prop), am_Ct tt 164 [.ref a0, .int a3] h (am_pI Q2 X2) ∧ (∀ x3 h1, Q2 x3 h1 →
   ((x3 ≤ (Int32.ofNat 0) →
    am_Ev tt 170 201 [some (.ref a0), none, some (.int a2), some (.int a3), none] [] h1 (am_pV Q Qx)) ∧
   (¬ (x3 ≤ (Int32.ofNat 0)) →
    (am_K h1 a0 = 11 ∧ ∃ q4, am_R h1 10 14 a0 = some q4 ∧
    ((am_K h1 q4 = 21 ∨ am_K h1 q4 = 31) ∧ vp_in a3 (am_N h1 q4) ∧
    ((¬ (am_A h1 q4 (a3).toNatClampNeg) = (Int32.ofNat 0) →
     (am_K h1 a0 = 11 ∧ ∃ q5, am_R h1 10 14 a0 = some q5 ∧
     ((am_K h1 q5 = 21 ∨ am_K h1 q5 = 31) ∧ vp_in a3 (am_N h1 q5) ∧
     (((am_A h1 q5 (a3).toNatClampNeg) ≤ a4 →
      am_Ev tt 170 201 [some (.ref a0), none, some (.int a2), some (.int a3), none] [] h1 (am_pV Q Qx)) ∧
     (¬ ((am_A h1 q5 (a3).toNatClampNeg) ≤ a4) →
      (am_K h1 a0 = 11 ∧ ∃ (Q7 : Int32 → am_H → Prop) (X7 : String → am_H → Prop), am_Ct tt 165 [.ref a0, .int a3] h1 (am_pI Q7 X7) ∧ (∀ x8 h6, Q7 x8 h6 →
       (am_K h6 a0 = 11 ∧ ∃ (Q10 : am_H → Prop) (X10 : String → am_H → Prop), am_Ct tt 160 [.ref a0, .long (x8).toInt64] h6 (am_pV Q10 X10) ∧ (∀ h9, Q10 h9 →
        am_Ev tt 170 153 [some (.ref a0), none, some (.int a2), some (.int a3), some (.int (a4 + (Int32.ofNat 1)))] [] h9 (am_pV Q Qx)) ∧ (∀ E11 h9, X10 E11 h9 → Qx E11 h9))) ∧ (∀ E12 h6, X7 E12 h6 → Qx E12 h6))))))) ∧
    (¬ (¬ (am_A h1 q4 (a3).toNatClampNeg) = (Int32.ofNat 0)) →
     (((Int32.ofNat 1) ≤ a4 →
      am_Ev tt 170 201 [some (.ref a0), none, some (.int a2), some (.int a3), none] [] h1 (am_pV Q Qx)) ∧
     (¬ ((Int32.ofNat 1) ≤ a4) →
      (am_K h1 a0 = 11 ∧ ∃ (Q14 : Int32 → am_H → Prop) (X14 : String → am_H → Prop), am_Ct tt 165 [.ref a0, .int a3] h1 (am_pI Q14 X14) ∧ (∀ x15 h13, Q14 x15 h13 →
       (am_K h13 a0 = 11 ∧ ∃ (Q17 : am_H → Prop) (X17 : String → am_H → Prop), am_Ct tt 160 [.ref a0, .long (x15).toInt64] h13 (am_pV Q17 X17) ∧ (∀ h16, Q17 h16 →
        am_Ev tt 170 153 [some (.ref a0), none, some (.int a2), some (.int a3), some (.int (a4 + (Int32.ofNat 1)))] [] h16 (am_pV Q Qx)) ∧ (∀ E18 h16, X17 E18 h16 → Qx E18 h16))) ∧ (∀ E19 h13, X14 E19 h13 → Qx E19 h13))))))))))) ∧ (∀ E20 h1, X2 E20 h1 → Qx E20 h1))) :
  am_Ev tt 170 153 [some (.ref a0), none, some (.int a2), some (.int a3), some (.int a4)] [] h (am_pV Q Qx) := am_vc 26 [(32, [true, true, true, true, false]), (69, [true, true, false, true, false]), (75, [true, true, true, true, false]), (111, [true, false, true, true, false]), (130, [true, false, true, true, false]), (144, [true, false, true, true, false]), (153, [true, false, true, true, true]), (201, [true, false, true, true, false]), (230, [true, false, false, true, false]), (254, [true, false, false, true, false]), (268, [true, false, false, true, false]), (347, [true, false, false, true, false]), (353, [true, false, false, false, false]), (366, [true, false, false, true, false]), (422, [true, false, false, true, false])] q
theorem vc_170_201 (tt : Nat → Nat) (a0 : Nat) (a2 : Int32) (a3 : Int32) (h : am_H) (Q : am_H → Prop) (Qx : String → am_H → Prop) (q :
  am_Ev tt 170 144 [some (.ref a0), none, some (.int a2), some (.int (a3 + (Int32.ofNat 1))), none] [] h (am_pV Q Qx)) :
  am_Ev tt 170 201 [some (.ref a0), none, some (.int a2), some (.int a3), none] [] h (am_pV Q Qx) := am_vc 5 [(32, [true, true, true, true, false]), (69, [true, true, false, true, false]), (75, [true, true, true, true, false]), (111, [true, false, true, true, false]), (130, [true, false, true, true, false]), (144, [true, false, true, true, false]), (153, [true, false, true, true, true]), (201, [true, false, true, true, false]), (230, [true, false, false, true, false]), (254, [true, false, false, true, false]), (268, [true, false, false, true, false]), (347, [true, false, false, true, false]), (353, [true, false, false, false, false]), (366, [true, false, false, true, false]), (422, [true, false, false, true, false])] q
set_option maxRecDepth 4096 in
theorem vc_170_230 (tt : Nat → Nat) (a0 : Nat) (a3 : Int32) (h : am_H) (Q : am_H → Prop) (Qx : String → am_H → Prop) (q :
  (((Int32.ofNat 6) ≤ a3 →
   (am_K h a0 = 11 ∧ ∃ (Q2 : am_H → Prop) (X2 : String → am_H → Prop), am_Ct tt 159 [.ref a0, .int (Int32.ofNat 9)] h (am_pV Q2 X2) ∧ (∀ h1, Q2 h1 →
    am_Ev tt 170 268 [some (.ref a0), none, none, some (.int (Int32.ofNat 0)), none] [] h1 (am_pV Q Qx)) ∧ (∀ E3 h1, X2 E3 h1 → Qx E3 h1))) ∧
  (¬ ((Int32.ofNat 6) ≤ a3) →
   (am_K h a0 = 11 ∧ ∃ (Q5 : Int32 → am_H → Prop) (X5 : String → am_H → Prop), am_Ct tt 164 [.ref a0, .int a3] h (am_pI Q5 X5) ∧ (∀ x6 h4, Q5 x6 h4 →
    ((x6 ≤ (Int32.ofNat 0) →
     am_Ev tt 170 254 [some (.ref a0), none, none, some (.int a3), none] [] h4 (am_pV Q Qx)) ∧
    (¬ (x6 ≤ (Int32.ofNat 0)) →
     (am_K h4 a0 = 11 ∧ ∃ (Q8 : Int32 → am_H → Prop) (X8 : String → am_H → Prop), am_Ct tt 164 [.ref a0, .int a3] h4 (am_pI Q8 X8) ∧ (∀ x9 h7, Q8 x9 h7 →
      (am_K h7 a0 = 11 ∧ ∃ (Q11 : am_H → Prop) (X11 : String → am_H → Prop), am_Ct tt 160 [.ref a0, .long (x9).toInt64] h7 (am_pV Q11 X11) ∧ (∀ h10, Q11 h10 →
       am_Ev tt 170 254 [some (.ref a0), none, none, some (.int a3), none] [] h10 (am_pV Q Qx)) ∧ (∀ E12 h10, X11 E12 h10 → Qx E12 h10))) ∧ (∀ E13 h7, X8 E13 h7 → Qx E13 h7))))) ∧ (∀ E14 h4, X5 E14 h4 → Qx E14 h4))))) :
  am_Ev tt 170 230 [some (.ref a0), none, none, some (.int a3), none] [] h (am_pV Q Qx) := am_vc 16 [(32, [true, true, true, true, false]), (69, [true, true, false, true, false]), (75, [true, true, true, true, false]), (111, [true, false, true, true, false]), (130, [true, false, true, true, false]), (144, [true, false, true, true, false]), (153, [true, false, true, true, true]), (201, [true, false, true, true, false]), (230, [true, false, false, true, false]), (254, [true, false, false, true, false]), (268, [true, false, false, true, false]), (347, [true, false, false, true, false]), (353, [true, false, false, false, false]), (366, [true, false, false, true, false]), (422, [true, false, false, true, false])] q
set_option maxRecDepth 4096 in
theorem vc_170_254 (tt : Nat → Nat) (a0 : Nat) (a3 : Int32) (h : am_H) (Q : am_H → Prop) (Qx : String → am_H → Prop) (q :
  am_Ev tt 170 230 [some (.ref a0), none, none, some (.int (a3 + (Int32.ofNat 1))), none] [] h (am_pV Q Qx)) :
  am_Ev tt 170 254 [some (.ref a0), none, none, some (.int a3), none] [] h (am_pV Q Qx) := am_vc 5 [(32, [true, true, true, true, false]), (69, [true, true, false, true, false]), (75, [true, true, true, true, false]), (111, [true, false, true, true, false]), (130, [true, false, true, true, false]), (144, [true, false, true, true, false]), (153, [true, false, true, true, true]), (201, [true, false, true, true, false]), (230, [true, false, false, true, false]), (254, [true, false, false, true, false]), (268, [true, false, false, true, false]), (347, [true, false, false, true, false]), (353, [true, false, false, false, false]), (366, [true, false, false, true, false]), (422, [true, false, false, true, false])] q
set_option maxRecDepth 4096 in
theorem vc_170_268 (tt : Nat → Nat) (a0 : Nat) (a3 : Int32) (h : am_H) (Q : am_H → Prop) (Qx : String → am_H → Prop) (q :
  (am_K h a0 = 11 ∧
  (((am_I h 10 1 a0) ≤ (a3 + (Int32.ofNat 1)) →
   am_Ev tt 170 353 [some (.ref a0), none, none, none, none] [] h (am_pV Q Qx)) ∧
  (¬ ((am_I h 10 1 a0) ≤ (a3 + (Int32.ofNat 1))) →
   (am_K h a0 = 11 ∧ ∃ q1, am_R h 10 25 a0 = some q1 ∧
   ((am_K h q1 = 21 ∨ am_K h q1 = 31) ∧ vp_in a3 (am_N h q1) ∧
   (am_K h a0 = 11 ∧ ∃ q2, am_R h 10 9 a0 = some q2 ∧
   ((am_K h q2 = 21 ∨ am_K h q2 = 31) ∧ vp_in (am_A h q1 (a3).toNatClampNeg) (am_N h q2) ∧
   (((am_A h q2 ((am_A h q1 (a3).toNatClampNeg)).toNatClampNeg) ≤ (Int32.ofNat 0) →
    am_Ev tt 170 347 [some (.ref a0), none, none, some (.int a3), none] [] h (am_pV Q Qx)) ∧
   (¬ ((am_A h q2 ((am_A h q1 (a3).toNatClampNeg)).toNatClampNeg) ≤ (Int32.ofNat 0)) →
    (am_K h a0 = 11 ∧ ∃ q3, am_R h 10 9 a0 = some q3 ∧
    (am_K h a0 = 11 ∧ ∃ q4, am_R h 10 25 a0 = some q4 ∧
    ((am_K h q4 = 21 ∨ am_K h q4 = 31) ∧ vp_in (a3 + (Int32.ofNat 1)) (am_N h q4) ∧
    ((am_K h q3 = 21 ∨ am_K h q3 = 31) ∧ vp_in (am_A h q4 ((a3 + (Int32.ofNat 1))).toNatClampNeg) (am_N h q3) ∧
    (((am_A h q3 ((am_A h q4 ((a3 + (Int32.ofNat 1))).toNatClampNeg)).toNatClampNeg) ≤ (Int32.ofNat 0) →
     am_Ev tt 170 347 [some (.ref a0), none, none, some (.int a3), none] [] h (am_pV Q Qx)) ∧
    (¬ ((am_A h q3 ((am_A h q4 ((a3 + (Int32.ofNat 1))).toNatClampNeg)).toNatClampNeg) ≤ (Int32.ofNat 0)) →
     (am_K h a0 = 11 ∧ ∃ q5, am_R h 10 11 a0 = some q5 ∧
     (am_K h a0 = 11 ∧ ∃ q6, am_R h 10 25 a0 = some q6 ∧
     ((am_K h q6 = 21 ∨ am_K h q6 = 31) ∧ vp_in (a3 + (Int32.ofNat 1)) (am_N h q6) ∧
     ((am_K h q5 = 21 ∨ am_K h q5 = 31) ∧ vp_in (am_A h q6 ((a3 + (Int32.ofNat 1))).toNatClampNeg) (am_N h q5) ∧
     (am_K h a0 = 11 ∧ ∃ q7, am_R h 10 11 a0 = some q7 ∧
     ((am_K h q7 = 21 ∨ am_K h q7 = 31) ∧ vp_in (am_A h q1 (a3).toNatClampNeg) (am_N h q7) ∧
     ((¬ (am_A h q5 ((am_A h q6 ((a3 + (Int32.ofNat 1))).toNatClampNeg)).toNatClampNeg) = (am_A h q7 ((am_A h q1 (a3).toNatClampNeg)).toNatClampNeg) →
      am_Ev tt 170 347 [some (.ref a0), none, none, some (.int a3), none] [] h (am_pV Q Qx)) ∧
     (¬ (¬ (am_A h q5 ((am_A h q6 ((a3 + (Int32.ofNat 1))).toNatClampNeg)).toNatClampNeg) = (am_A h q7 ((am_A h q1 (a3).toNatClampNeg)).toNatClampNeg)) →
      (am_K h a0 = 11 ∧ ∃ q8, am_R h 10 9 a0 = some q8 ∧
      ((am_K h q8 = 21 ∨ am_K h q8 = 31) ∧ vp_in (am_A h q1 (a3).toNatClampNeg) (am_N h q8) ∧
      (am_K h a0 = 11 ∧ ∃ (Q10 : am_H → Prop) (X10 : String → am_H → Prop), am_Ct tt 160 [.ref a0, .long ((am_A h q8 ((am_A h q1 (a3).toNatClampNeg)).toNatClampNeg)).toInt64] h (am_pV Q10 X10) ∧ (∀ h9, Q10 h9 →
       am_Ev tt 170 347 [some (.ref a0), none, none, some (.int a3), none] [] h9 (am_pV Q Qx)) ∧ (∀ E11 h9, X10 E11 h9 → Qx E11 h9)))))))))))))))))))))))))))) :
  am_Ev tt 170 268 [some (.ref a0), none, none, some (.int a3), none] [] h (am_pV Q Qx) := am_vc 50 [(32, [true, true, true, true, false]), (69, [true, true, false, true, false]), (75, [true, true, true, true, false]), (111, [true, false, true, true, false]), (130, [true, false, true, true, false]), (144, [true, false, true, true, false]), (153, [true, false, true, true, true]), (201, [true, false, true, true, false]), (230, [true, false, false, true, false]), (254, [true, false, false, true, false]), (268, [true, false, false, true, false]), (347, [true, false, false, true, false]), (353, [true, false, false, false, false]), (366, [true, false, false, true, false]), (422, [true, false, false, true, false])] q
set_option maxRecDepth 4096 in
theorem vc_170_347 (tt : Nat → Nat) (a0 : Nat) (a3 : Int32) (h : am_H) (Q : am_H → Prop) (Qx : String → am_H → Prop) (q :
  am_Ev tt 170 268 [some (.ref a0), none, none, some (.int (a3 + (Int32.ofNat 1))), none] [] h (am_pV Q Qx)) :
  am_Ev tt 170 347 [some (.ref a0), none, none, some (.int a3), none] [] h (am_pV Q Qx) := am_vc 5 [(32, [true, true, true, true, false]), (69, [true, true, false, true, false]), (75, [true, true, true, true, false]), (111, [true, false, true, true, false]), (130, [true, false, true, true, false]), (144, [true, false, true, true, false]), (153, [true, false, true, true, true]), (201, [true, false, true, true, false]), (230, [true, false, false, true, false]), (254, [true, false, false, true, false]), (268, [true, false, false, true, false]), (347, [true, false, false, true, false]), (353, [true, false, false, false, false]), (366, [true, false, false, true, false]), (422, [true, false, false, true, false])] q
set_option maxRecDepth 4096 in
theorem vc_170_353 (tt : Nat → Nat) (a0 : Nat) (h : am_H) (Q : am_H → Prop) (Qx : String → am_H → Prop) (q :
  (am_K h a0 = 11 ∧ ∃ (Q2 : am_H → Prop) (X2 : String → am_H → Prop), am_Ct tt 159 [.ref a0, .int (Int32.ofNat 10)] h (am_pV Q2 X2) ∧ (∀ h1, Q2 h1 →
   (am_K h1 a0 = 11 ∧ ∃ (Q4 : am_H → Prop) (X4 : String → am_H → Prop), am_Ct tt 159 [.ref a0, .int (Int32.ofNat 1)] h1 (am_pV Q4 X4) ∧ (∀ h3, Q4 h3 →
    am_Ev tt 170 366 [some (.ref a0), none, none, some (.int (Int32.ofNat 0)), none] [] h3 (am_pV Q Qx)) ∧ (∀ E5 h3, X4 E5 h3 → Qx E5 h3))) ∧ (∀ E6 h1, X2 E6 h1 → Qx E6 h1))) :
  am_Ev tt 170 353 [some (.ref a0), none, none, none, none] [] h (am_pV Q Qx) := am_vc 11 [(32, [true, true, true, true, false]), (69, [true, true, false, true, false]), (75, [true, true, true, true, false]), (111, [true, false, true, true, false]), (130, [true, false, true, true, false]), (144, [true, false, true, true, false]), (153, [true, false, true, true, true]), (201, [true, false, true, true, false]), (230, [true, false, false, true, false]), (254, [true, false, false, true, false]), (268, [true, false, false, true, false]), (347, [true, false, false, true, false]), (353, [true, false, false, false, false]), (366, [true, false, false, true, false]), (422, [true, false, false, true, false])] q
set_option maxRecDepth 4096 in
theorem vc_170_366 (tt : Nat → Nat) (a0 : Nat) (a3 : Int32) (h : am_H) (Q : am_H → Prop) (Qx : String → am_H → Prop) (q :
  (am_K h a0 = 11 ∧
  (((am_I h 10 1 a0) ≤ a3 →
   (am_K h a0 = 11 ∧ ∃ (Q2 : am_H → Prop) (X2 : String → am_H → Prop), am_Ct tt 159 [.ref a0, .int (Int32.ofNat 0)] h (am_pV Q2 X2) ∧ (∀ h1, Q2 h1 →
    (am_K h1 a0 = 11 ∧ ∃ (Q4 : am_H → Prop) (X4 : String → am_H → Prop), am_Ct tt 159 [.ref a0, .int (Int32.ofNat 0)] h1 (am_pV Q4 X4) ∧ (∀ h3, Q4 h3 →
     Q h3) ∧ (∀ E5 h3, X4 E5 h3 → Qx E5 h3))) ∧ (∀ E6 h1, X2 E6 h1 → Qx E6 h1))) ∧
  (¬ ((am_I h 10 1 a0) ≤ a3) →
   (am_K h a0 = 11 ∧ ∃ q7, am_R h 10 9 a0 = some q7 ∧
   (am_K h a0 = 11 ∧ ∃ q8, am_R h 10 25 a0 = some q8 ∧
   ((am_K h q8 = 21 ∨ am_K h q8 = 31) ∧ vp_in a3 (am_N h q8) ∧
   ((am_K h q7 = 21 ∨ am_K h q7 = 31) ∧ vp_in (am_A h q8 (a3).toNatClampNeg) (am_N h q7) ∧
   (((am_A h q7 ((am_A h q8 (a3).toNatClampNeg)).toNatClampNeg) ≤ (Int32.ofNat 0) →
    am_Ev tt 170 422 [some (.ref a0), none, none, some (.int a3), none] [] h (am_pV Q Qx)) ∧
   (¬ ((am_A h q7 ((am_A h q8 (a3).toNatClampNeg)).toNatClampNeg) ≤ (Int32.ofNat 0)) →
    (am_K h a0 = 11 ∧ ∃ q9, am_R h 10 10 a0 = some q9 ∧
    (am_K h a0 = 11 ∧ ∃ q10, am_R h 10 25 a0 = some q10 ∧
    ((am_K h q10 = 21 ∨ am_K h q10 = 31) ∧ vp_in a3 (am_N h q10) ∧
    (am_K h a0 = 11 ∧ ∃ q11, am_R h 10 9 a0 = some q11 ∧
    (am_K h a0 = 11 ∧ ∃ q12, am_R h 10 25 a0 = some q12 ∧
    ((am_K h q12 = 21 ∨ am_K h q12 = 31) ∧ vp_in a3 (am_N h q12) ∧
    ((am_K h q11 = 21 ∨ am_K h q11 = 31) ∧ vp_in (am_A h q12 (a3).toNatClampNeg) (am_N h q11) ∧
    (∃ (Q14 : Int32 → am_H → Prop) (X14 : String → am_H → Prop), am_Ct tt 131 [.ref q9, .int ((Int32.ofNat 2400) * (am_A h q10 (a3).toNatClampNeg)), .int (am_A h q11 ((am_A h q12 (a3).toNatClampNeg)).toNatClampNeg)] h (am_pI Q14 X14) ∧ (∀ x15 h13, Q14 x15 h13 →
     (am_K h13 a0 = 11 ∧ ∃ (Q17 : am_H → Prop) (X17 : String → am_H → Prop), am_Ct tt 161 [.ref a0, .long (x15).toInt64, .int (Int32.ofNat 4)] h13 (am_pV Q17 X17) ∧ (∀ h16, Q17 h16 →
      am_Ev tt 170 422 [some (.ref a0), none, none, some (.int a3), none] [] h16 (am_pV Q Qx)) ∧ (∀ E18 h16, X17 E18 h16 → Qx E18 h16))) ∧ (∀ E19 h13, X14 E19 h13 → Qx E19 h13))))))))))))))))))) :
  am_Ev tt 170 366 [some (.ref a0), none, none, some (.int a3), none] [] h (am_pV Q Qx) := am_vc 35 [(32, [true, true, true, true, false]), (69, [true, true, false, true, false]), (75, [true, true, true, true, false]), (111, [true, false, true, true, false]), (130, [true, false, true, true, false]), (144, [true, false, true, true, false]), (153, [true, false, true, true, true]), (201, [true, false, true, true, false]), (230, [true, false, false, true, false]), (254, [true, false, false, true, false]), (268, [true, false, false, true, false]), (347, [true, false, false, true, false]), (353, [true, false, false, false, false]), (366, [true, false, false, true, false]), (422, [true, false, false, true, false])] q
set_option maxRecDepth 4096 in
theorem vc_170_422 (tt : Nat → Nat) (a0 : Nat) (a3 : Int32) (h : am_H) (Q : am_H → Prop) (Qx : String → am_H → Prop) (q :
  am_Ev tt 170 366 [some (.ref a0), none, none, some (.int (a3 + (Int32.ofNat 1))), none] [] h (am_pV Q Qx)) :
  am_Ev tt 170 422 [some (.ref a0), none, none, some (.int a3), none] [] h (am_pV Q Qx) := am_vc 5 [(32, [true, true, true, true, false]), (69, [true, true, false, true, false]), (75, [true, true, true, true, false]), (111, [true, false, true, true, false]), (130, [true, false, true, true, false]), (144, [true, false, true, true, false]), (153, [true, false, true, true, true]), (201, [true, false, true, true, false]), (230, [true, false, false, true, false]), (254, [true, false, false, true, false]), (268, [true, false, false, true, false]), (347, [true, false, false, true, false]), (353, [true, false, false, false, false]), (366, [true, false, false, true, false]), (422, [true, false, false, true, false])] q

def smb (E : Nat → sE) (n : Nat) : Nat → Bool
  | 0 => false
  | i + 1 => smb E n i || decide (1 < sfo E i n)
theorem smb_k {a : sA} : ∀ {b : Nat}, kbn a b ≤ ((R0 b).flatMap (fun b => oBn (a_E a) b (a_n a))).length ∧ (smb (a_E a) (a_n a) b = true ↔ kbn a b < ((R0 b).flatMap (fun b => oBn (a_E a) b (a_n a))).length)
  | 0 => ⟨Nat.le_refl _, by rw [smb]; exact ⟨fun z => absurd z Bool.false_ne_true, fun z => absurd z (Nat.lt_irrefl 0)⟩⟩
  | b + 1 => by
    obtain ⟨h1, h2⟩ := smb_k (a := a) (b := b)
    rw [fm_s, List.length_append, oBn_l, kbn_s, smb, Bool.or_eq_true, decide_eq_true_iff, h2]
    split <;> omega
theorem smb_6 {a : sA} : smb (a_E a) (a_n a) 6 = decide (kb a < (oK a).length) := by
  have := (smb_k (a := a) (b := 6)).2
  have e : (smb (a_E a) (a_n a) 6 = true) ↔ (decide (kb a < (oK a).length) = true) := by rw [decide_eq_true_iff]; exact this
  cases h1 : smb (a_E a) (a_n a) 6 <;> cases h2 : decide (kb a < (oK a).length) <;> simp_all
section MS
variable {tt : Nat → Nat} {P : Nat → Prop} {h h' h'' : am_H} {m : Nat} {ad : Nat → Nat} {S : sS}
theorem ct_putStreams {n : Nat} (x : MX P h m ad S n) (w : wok S.1) (hK1 : 0 < (oK S.1).length) (hn : n + (wS S.1).length ≤ 9300) : am_Ct tt 170 [.ref m, .int (Int32.ofNat (kb S.1))] h (am_pV (fun h' => h' = ml m ad h (wS S.1)) no_x) := by
  have wf := x.2.1
  have n24 := wf.1.1
  have hK := oK_le wf.1
  have hkb := kb_le (a := S.1)
  have xF : ∀ l, MX P (ml m ad h l) m ad S (n + l.length) := fun l => x.tl l
  -- checks
  have keyC : ∀ (d i : Nat) (l : List Int32), d + i = a_n S.1 → n + (l ++ (wCk S.1 ++ [Int32.ofNat 0, Int32.ofNat 0])).length ≤ 9300 →
      am_Ev tt 170 366 [some (.ref m), none, none, some (.int (Int32.ofNat i)), none] [] (ml m ad h (l ++ (R0 (if i ≤ (oK S.1).length then i else (oK S.1).length)).flatMap (fun i => (fun i => LB 4 (ck (e_by (a_E S.1 i)) 0 (e_sz (a_E S.1 i))).toInt64) (oo S.1 i)))) (am_pV (fun h' => h' = ml m ad h (l ++ (wCk S.1 ++ [Int32.ofNat 0, Int32.ofNat 0]))) no_x) := by
    intro d
    induction d with
    | zero =>
      intro i l e hl
      have : i = a_n S.1 := by omega
      subst this
      have ek : (if a_n S.1 ≤ (oK S.1).length then a_n S.1 else (oK S.1).length) = (oK S.1).length := by split <;> omega
      rw [ek, fm_K (g := fun i => LB 4 (ck (e_by (a_E S.1 i)) 0 (e_sz (a_E S.1 i))).toInt64)]
      show am_Ev tt 170 366 _ _ (ml m ad h (l ++ wCk S.1)) _
      have y := xF (l ++ wCk S.1)
      simp only [List.length_append, List.length_cons, List.length_nil] at hl y
      refine vc_170_366 tt _ _ _ _ _ ⟨y.1.1.1, fun _ => y.b (by omega) rfl fun h1 e1 x1 => x1.b (by omega) rfl fun h2 e2 _ => ?_, fun z => absurd (by rw [y.1.2.1]; exact Int32.le_refl _) z⟩
      rw [e2, e1, ml_app, ml_app]
      simp only [List.append_assoc]
      rfl
    | succ d ih =>
      intro i l e hl
      have y := xF (l ++ (R0 (if i ≤ (oK S.1).length then i else (oK S.1).length)).flatMap (fun i => (fun i => LB 4 (ck (e_by (a_E S.1 i)) 0 (e_sz (a_E S.1 i))).toInt64) (oo S.1 i)))
      have nx := ih (i + 1) l (by omega) hl
      have hlt := oo_lt wf.1 (j := i) (by omega)
      have i24 : i < 24 := by omega
      have o24 : oo S.1 i < 24 := by omega
      have w3 := (wf.1.2.1 _ hlt).2.2.1
      have yo := y.2.2.2 i (by omega)
      have yv := y.o (j := i) (by omega)
      have o4 := yv.2.2.2.1
      have s := y.1.1
      have q2 := y.1.2.1
      by_cases c : i < (oK S.1).length
      · have hp := oo_K (a := S.1) c
        have yb := yv.2.2.2.2.2.2.2.2.2.2.2 ((w.1 _ hlt).2 hp)
        have b1 : 2400 * oo S.1 i + e_sz (a_E S.1 (oo S.1 i)) ≤ 57600 := by omega
        have fl := fm_le (g := fun i => (fun i => LB 4 (ck (e_by (a_E S.1 i)) 0 (e_sz (a_E S.1 i))).toInt64) (oo S.1 i)) (i := i) (n := (oK S.1).length) c
        rw [fm_K (g := fun i => LB 4 (ck (e_by (a_E S.1 i)) 0 (e_sz (a_E S.1 i))).toInt64)] at fl
        have fl : _ ≤ (wCk S.1).length := fl
        have e4 : ((fun i => LB 4 (ck (e_by (a_E S.1 i)) 0 (e_sz (a_E S.1 i))).toInt64) (oo S.1 i)).length = 4 := LB_l
        rw [e4] at fl
        rw [if_pos (by omega), fm_s, ← List.append_assoc, ← ml_app] at nx
        rw [if_pos (by omega)] at y s q2 yo yv o4 yb ⊢
        rw [List.length_append] at y
        simp only [List.length_append, List.length_cons, List.length_nil] at hl
        generalize hk : ml m ad h (l ++ (R0 i).flatMap (fun i => (fun i => LB 4 (ck (e_by (a_E S.1 i)) 0 (e_sz (a_E S.1 i))).toInt64) (oo S.1 i))) = k at *
        have kD : am_K k (ad 10) = 23 := (md_r s (k := 10) (by decide) rfl (by decide)).2.1
        have kN : am_N k (ad 10) = 57600 := (md_r s (k := 10) (by decide) rfl (by decide)).2.2
        refine vc_170_366 tt _ _ _ _ _ ?_
        simp (disch := omega) only [s.1, md_f s, q2, yo, o4, i24, o24, qi_mul, qi_lt, qi_le, qi_eq, qi_nn, qi_in, qi_add, qi_l, ql_i, ql_lt, ql_le, ql_eq, ql_add, qc_lt, qc_eq, qc_ge, qc_gt, qc_le, true_and, and_true, and_self, true_or, or_true, false_or, or_false, false_and, and_false, not_true_eq_false, not_false_eq_true, Classical.not_not, true_implies, false_implies, implies_true, exists_eq_left, exists_eq_left', Option.some.injEq, reduceIte, Nat.reduceEqDiff, Nat.reduceLT, Nat.reduceLeDiff, Nat.reduceAdd, Nat.reduceSub, Nat.reduceMul, eq_self, ne_eq, and_imp, forall_const, reduceCtorEq, am_w, List.map_cons, List.map_nil, List.sum_cons, List.sum_nil, Value.category, Nat.zero_le, Nat.le_refl]
        refine ⟨fun z => by omega, fun _ => ⟨fun z => by omega, fun _ => ⟨_, _, ct_check kD (by rw [kN]; exact b1) (by omega), fun r k' e' => ?_, fun _ _ z => z⟩⟩⟩
        obtain ⟨e1, e2⟩ := e'
        have er : r = ck (e_by (a_E S.1 (oo S.1 i))) 0 (e_sz (a_E S.1 (oo S.1 i))) := by
          rw [e2, ck_sh]
          exact ck_fr (fun j _ hj => yb j (by omega))
        rw [e1, er]
        exact y.l (k := 4) (by omega) (by omega) fun h2 e2 x2 => vc_170_422 tt _ _ _ _ _ (by rw [e2, qi_add]; exact nx)
      · have hz := oo_Z wf.1 (j := i) (by omega) (by omega)
        rw [if_neg (by omega)] at nx
        have e1 : (if i ≤ (oK S.1).length then i else (oK S.1).length) = (oK S.1).length := by split <;> omega
        rw [e1] at y s q2 yo yv o4 ⊢
        generalize hk : ml m ad h (l ++ (R0 (oK S.1).length).flatMap (fun i => (fun i => LB 4 (ck (e_by (a_E S.1 i)) 0 (e_sz (a_E S.1 i))).toInt64) (oo S.1 i))) = k at *
        rw [hz] at o4
        refine vc_170_366 tt _ _ _ _ _ ?_
        simp (disch := omega) only [s.1, md_f s, q2, yo, o4, i24, o24, qi_mul, qi_lt, qi_le, qi_eq, qi_nn, qi_in, qi_add, qi_l, ql_i, ql_lt, ql_le, ql_eq, ql_add, qc_lt, qc_eq, qc_ge, qc_gt, qc_le, true_and, and_true, and_self, true_or, or_true, false_or, or_false, false_and, and_false, not_true_eq_false, not_false_eq_true, Classical.not_not, true_implies, false_implies, implies_true, exists_eq_left, exists_eq_left', Option.some.injEq, reduceIte, Nat.reduceEqDiff, Nat.reduceLT, Nat.reduceLeDiff, Nat.reduceAdd, Nat.reduceSub, Nat.reduceMul, eq_self, ne_eq, and_imp, forall_const, reduceCtorEq, am_w, List.map_cons, List.map_nil, List.sum_cons, List.sum_nil, Value.category, Nat.zero_le, Nat.le_refl]
        refine ⟨fun z => by omega, fun _ => vc_170_422 tt _ _ _ _ _ (by rw [qi_add]; exact nx)⟩
  have key353 : ∀ (l : List Int32), n + (l ++ ([Int32.ofNat 10, Int32.ofNat 1] ++ (wCk S.1 ++ [Int32.ofNat 0, Int32.ofNat 0]))).length ≤ 9300 →
      am_Ev tt 170 353 [some (.ref m), none, none, none, none] [] (ml m ad h l) (am_pV (fun h' => h' = ml m ad h (l ++ ([Int32.ofNat 10, Int32.ofNat 1] ++ (wCk S.1 ++ [Int32.ofNat 0, Int32.ofNat 0])))) no_x) := by
    intro l hl
    have y := xF l
    have hl' := hl
    simp only [List.length_append, List.length_cons, List.length_nil] at hl'
    refine vc_170_353 tt _ _ _ _ (y.b (by omega) rfl fun h1 e1 x1 => x1.b (by omega) rfl fun h2 e2 x2 => ?_)
    have := keyC (a_n S.1) 0 (l ++ [Int32.ofNat 10, Int32.ofNat 1]) (by omega) (by rw [List.append_assoc]; exact hl)
    rw [if_pos (Nat.zero_le _), show (R0 0).flatMap (fun i => (fun i => LB 4 (ck (e_by (a_E S.1 i)) 0 (e_sz (a_E S.1 i))).toInt64) (oo S.1 i)) = [] from rfl, List.append_nil, List.append_assoc] at this
    rw [e2, e1, ml_app, ml_app]
    exact this
  generalize hR5 : ([Int32.ofNat 10, Int32.ofNat 1] ++ (wCk S.1 ++ [Int32.ofNat 0, Int32.ofNat 0])) = R5 at key353
  -- sizes of files
  have keyS : ∀ (d i : Nat) (l : List Int32), d + i = a_n S.1 - 1 → n + (l ++ (wFs S.1 ++ R5)).length ≤ 9300 →
      am_Ev tt 170 268 [some (.ref m), none, none, some (.int (Int32.ofNat i)), none] [] (ml m ad h (l ++ (R0 (if i ≤ (oK S.1).length - 1 then i else (oK S.1).length - 1)).flatMap (fun i => if e_hm (a_E S.1 (oo S.1 i)) = e_hm (a_E S.1 (oo S.1 (i + 1))) then nb (e_sz (a_E S.1 (oo S.1 i))) else []))) (am_pV (fun h' => h' = ml m ad h (l ++ (wFs S.1 ++ R5))) no_x) := by
    intro d
    induction d with
    | zero =>
      intro i l e hl
      have : i = a_n S.1 - 1 := by omega
      subst this
      have ek : (if a_n S.1 - 1 ≤ (oK S.1).length - 1 then a_n S.1 - 1 else (oK S.1).length - 1) = (oK S.1).length - 1 := by split <;> omega
      rw [ek]
      show am_Ev tt 170 268 _ _ (ml m ad h (l ++ wFs S.1)) _
      have y := xF (l ++ wFs S.1)
      have q2 := y.1.2.1
      have := key353 (l ++ wFs S.1) (by rw [List.append_assoc]; exact hl)
      rw [List.append_assoc] at this
      refine vc_170_268 tt _ _ _ _ _ ⟨y.1.1.1, fun _ => this, fun z => absurd (by rw [q2, qi_add]; simp (disch := omega) only [qi_lt, qi_le, qi_eq, qi_nn, qi_in, qi_add, qi_l, ql_i, ql_lt, ql_le, ql_eq, ql_add, qc_lt, qc_eq, qc_ge, qc_gt, qc_le]; omega) z⟩
    | succ d ih =>
      intro i l e hl
      have y := xF (l ++ (R0 (if i ≤ (oK S.1).length - 1 then i else (oK S.1).length - 1)).flatMap (fun i => if e_hm (a_E S.1 (oo S.1 i)) = e_hm (a_E S.1 (oo S.1 (i + 1))) then nb (e_sz (a_E S.1 (oo S.1 i))) else []))
      have nx := ih (i + 1) l (by omega) hl
      have hlt := oo_lt wf.1 (j := i) (by omega)
      have hlt' := oo_lt wf.1 (j := i + 1) (by omega)
      have i24 : i < 24 := by omega
      have j24 : i + 1 < 24 := by omega
      have o24 : oo S.1 i < 24 := by omega
      have p24 : oo S.1 (i + 1) < 24 := by omega
      have w1 := wf.1.2.1 _ hlt
      have w2 := wf.1.2.1 _ hlt'
      have w13 := w1.2.2.1
      have w14 := w1.2.2.2
      have w23 := w2.2.2.1
      have w24 := w2.2.2.2
      have yo := y.2.2.2 i (by omega)
      have yp := y.2.2.2 (i + 1) (by omega)
      have o4 := (y.o (j := i) (by omega)).2.2.2.1
      have o5 := (y.o (j := i) (by omega)).2.2.2.2.1
      have p4 := (y.o (j := i + 1) (by omega)).2.2.2.1
      have p5 := (y.o (j := i + 1) (by omega)).2.2.2.2.1
      have s := y.1.1
      have q2 := y.1.2.1
      by_cases c : i < (oK S.1).length - 1
      · have hp := oo_K (a := S.1) (j := i) (by omega)
        have hp' := oo_K (a := S.1) (j := i + 1) (by omega)
        have fl := fm_le (g := fun i => if e_hm (a_E S.1 (oo S.1 i)) = e_hm (a_E S.1 (oo S.1 (i + 1))) then nb (e_sz (a_E S.1 (oo S.1 i))) else []) (i := i) (n := (oK S.1).length - 1) c
        have fl : _ ≤ (wFs S.1).length := fl
        rw [if_pos (by omega), fm_s, ← List.append_assoc, ← ml_app] at nx
        rw [if_pos (by omega)] at y s q2 yo yp o4 o5 p4 p5 ⊢
        rw [List.length_append] at y
        rw [List.length_append, List.length_append] at hl
        generalize hk : ml m ad h (l ++ (R0 i).flatMap (fun i => if e_hm (a_E S.1 (oo S.1 i)) = e_hm (a_E S.1 (oo S.1 (i + 1))) then nb (e_sz (a_E S.1 (oo S.1 i))) else [])) = k at *
        refine vc_170_268 tt _ _ _ _ _ ?_
        simp (disch := omega) only [s.1, md_f s, q2, yo, yp, o4, o5, p4, p5, i24, j24, o24, p24, qi_lt, qi_le, qi_eq, qi_nn, qi_in, qi_add, qi_l, ql_i, ql_lt, ql_le, ql_eq, ql_add, qc_lt, qc_eq, qc_ge, qc_gt, qc_le, true_and, and_true, and_self, true_or, or_true, false_or, or_false, false_and, and_false, not_true_eq_false, not_false_eq_true, Classical.not_not, true_implies, false_implies, implies_true, exists_eq_left, exists_eq_left', Option.some.injEq, reduceIte, Nat.reduceEqDiff, Nat.reduceLT, Nat.reduceLeDiff, Nat.reduceAdd, Nat.reduceSub, Nat.reduceMul, eq_self, ne_eq, and_imp, forall_const, reduceCtorEq, am_w, List.map_cons, List.map_nil, List.sum_cons, List.sum_nil, Value.category, Nat.zero_le, Nat.le_refl]
        refine ⟨fun z => by omega, fun _ => ⟨fun z => by omega, fun _ => ⟨fun z => by omega, fun _ => ⟨fun z => ?_, fun z => ?_⟩⟩⟩⟩
        · rw [if_neg (fun w => z w.symm), ml_nil] at nx
          exact vc_170_347 tt _ _ _ _ _ (by rw [qi_add]; exact nx)
        · rw [if_pos z.symm] at nx fl
          exact (y.n (k := e_sz (a_E S.1 (oo S.1 i))) (by omega) (by omega) rfl fun h2 e2 x2 => vc_170_347 tt _ _ _ _ _ (by rw [e2, qi_add]; exact nx)).2
      · have hz := oo_Z wf.1 (j := i + 1) (by omega) (by omega)
        rw [if_neg (by omega)] at nx
        have e1 : (if i ≤ (oK S.1).length - 1 then i else (oK S.1).length - 1) = (oK S.1).length - 1 := by split <;> omega
        rw [e1] at y s q2 yo yp o4 o5 p4 p5 ⊢
        generalize hk : ml m ad h (l ++ (R0 ((oK S.1).length - 1)).flatMap (fun i => if e_hm (a_E S.1 (oo S.1 i)) = e_hm (a_E S.1 (oo S.1 (i + 1))) then nb (e_sz (a_E S.1 (oo S.1 i))) else [])) = k at *
        rw [hz] at p4
        refine vc_170_268 tt _ _ _ _ _ ?_
        simp (disch := omega) only [s.1, md_f s, q2, yo, yp, o4, o5, p4, p5, i24, j24, o24, p24, qi_lt, qi_le, qi_eq, qi_nn, qi_in, qi_add, qi_l, ql_i, ql_lt, ql_le, ql_eq, ql_add, qc_lt, qc_eq, qc_ge, qc_gt, qc_le, true_and, and_true, and_self, true_or, or_true, false_or, or_false, false_and, and_false, not_true_eq_false, not_false_eq_true, Classical.not_not, true_implies, false_implies, implies_true, exists_eq_left, exists_eq_left', Option.some.injEq, reduceIte, Nat.reduceEqDiff, Nat.reduceLT, Nat.reduceLeDiff, Nat.reduceAdd, Nat.reduceSub, Nat.reduceMul, eq_self, ne_eq, and_imp, forall_const, reduceCtorEq, am_w, List.map_cons, List.map_nil, List.sum_cons, List.sum_nil, Value.category, Nat.zero_le, Nat.le_refl]
        refine ⟨fun z => by omega, fun _ => ⟨fun z => vc_170_347 tt _ _ _ _ _ (by rw [qi_add]; exact nx), fun _ => vc_170_347 tt _ _ _ _ _ (by rw [qi_add]; exact nx)⟩⟩
  -- counts of files
  have keyF : ∀ (d i : Nat) (l : List Int32), d + i = 6 → n + (l ++ (wFc S.1 ++ ([Int32.ofNat 9] ++ (wFs S.1 ++ R5)))).length ≤ 9300 →
      am_Ev tt 170 230 [some (.ref m), none, none, some (.int (Int32.ofNat i)), none] [] (ml m ad h (l ++ (R0 i).flatMap (fun b => if 0 < sfo (a_E S.1) b (a_n S.1) then nb (sfo (a_E S.1) b (a_n S.1)) else []))) (am_pV (fun h' => h' = ml m ad h (l ++ (wFc S.1 ++ ([Int32.ofNat 9] ++ (wFs S.1 ++ R5))))) no_x) := by
    intro d
    induction d with
    | zero =>
      intro i l e hl
      have : i = 6 := by omega
      subst this
      show am_Ev tt 170 230 _ _ (ml m ad h (l ++ wFc S.1)) _
      have y := xF (l ++ wFc S.1)
      have hl' := hl
      simp only [List.length_append, List.length_cons, List.length_nil] at hl' y
      refine vc_170_230 tt _ _ _ _ _ ⟨fun _ => y.b (by omega) rfl fun h1 e1 x1 => ?_, fun z => absurd (by decide) z⟩
      have := keyS (a_n S.1 - 1) 0 (l ++ (wFc S.1 ++ [Int32.ofNat 9])) (by omega) (by simp only [List.append_assoc] at hl ⊢; exact hl)
      rw [if_pos (Nat.zero_le _), show (R0 0).flatMap (fun i => if e_hm (a_E S.1 (oo S.1 i)) = e_hm (a_E S.1 (oo S.1 (i + 1))) then nb (e_sz (a_E S.1 (oo S.1 i))) else []) = [] from rfl, List.append_nil] at this
      rw [e1, ml_app]
      simp only [List.append_assoc] at this ⊢
      exact this
    | succ d ih =>
      intro i l e hl
      have y := xF (l ++ (R0 i).flatMap (fun b => if 0 < sfo (a_E S.1) b (a_n S.1) then nb (sfo (a_E S.1) b (a_n S.1)) else []))
      have nx := ih (i + 1) l (by omega) hl
      rw [fm_s, ← List.append_assoc, ← ml_app] at nx
      have fl := fm_le (g := fun b => if 0 < sfo (a_E S.1) b (a_n S.1) then nb (sfo (a_E S.1) b (a_n S.1)) else []) (i := i) (n := 6) (by omega)
      have fl : _ ≤ (wFc S.1).length := fl
      have hs := sfo_le (E := a_E S.1) (b := i) (n := a_n S.1)
      rw [List.length_append] at y
      rw [List.length_append, List.length_append] at hl
      generalize hk : ml m ad h (l ++ (R0 i).flatMap (fun b => if 0 < sfo (a_E S.1) b (a_n S.1) then nb (sfo (a_E S.1) b (a_n S.1)) else [])) = k at *
      refine vc_170_230 tt _ _ _ _ _ ?_
      simp (disch := omega) only [y.1.1.1, qi_lt, qi_le, qi_eq, qi_nn, qi_in, qi_add, qi_l, ql_i, ql_lt, ql_le, ql_eq, ql_add, qc_lt, qc_eq, qc_ge, qc_gt, qc_le, true_and, and_true, and_self, true_or, or_true, false_or, or_false, false_and, and_false, not_true_eq_false, not_false_eq_true, Classical.not_not, true_implies, false_implies, implies_true, exists_eq_left, exists_eq_left', Option.some.injEq, reduceIte, Nat.reduceEqDiff, Nat.reduceLT, Nat.reduceLeDiff, Nat.reduceAdd, Nat.reduceSub, Nat.reduceMul, eq_self, ne_eq, and_imp, forall_const, reduceCtorEq, am_w, List.map_cons, List.map_nil, List.sum_cons, List.sum_nil, Value.category, Nat.zero_le, Nat.le_refl]
      refine ⟨fun z => by omega, fun _ => ⟨_, _, ct_mfilesOf y.1 wf (b := i) (by omega), fun r k' e' => ?_, fun _ _ z => z⟩⟩
      obtain ⟨er, ek⟩ := e'
      rw [er, ek, qi_le (by omega) (by omega)]
      refine ⟨fun z => ?_, fun z => ⟨y.1.1.1, _, _, ct_mfilesOf y.1 wf (b := i) (by omega), fun r k' e' => ?_, fun _ _ z => z⟩⟩
      · rw [if_neg (by omega), ml_nil] at nx
        exact vc_170_254 tt _ _ _ _ _ (by rw [qi_add]; exact nx)
      · obtain ⟨er, ek⟩ := e'
        rw [if_pos (by omega)] at nx fl
        rw [er, ek]
        exact y.n (k := sfo (a_E S.1) i (a_n S.1)) (by omega) (by omega) (by rw [qi_l (by omega)]) fun h2 e2 x2 => vc_170_254 tt _ _ _ _ _ (by rw [e2, qi_add]; exact nx)
  generalize hR4 : ((if kb S.1 < (oK S.1).length then [Int32.ofNat 13] ++ (wFc S.1 ++ ([Int32.ofNat 9] ++ wFs S.1)) else []) ++ R5) = R4
  -- given sizes
  have keyG2 : ∀ (b : Nat), b < 6 → 0 < sbo (a_E S.1) b (a_n S.1) → ∀ (d i : Nat) (l : List Int32) (Q : am_H → Prop) (a2 : Int32), d + i = cno (a_B S.1 b) → n + (l ++ (R0 (cno (a_B S.1 b))).flatMap (fun _ => nb (sbo (a_E S.1) b (a_n S.1)))).length ≤ 9300 →
      am_Ev tt 170 144 [some (.ref m), none, some (.int a2), some (.int (Int32.ofNat (b + 1))), none] [] (ml m ad h (l ++ (R0 (cno (a_B S.1 b))).flatMap (fun _ => nb (sbo (a_E S.1) b (a_n S.1))))) (am_pV Q no_x) →
      am_Ev tt 170 153 [some (.ref m), none, some (.int a2), some (.int (Int32.ofNat b)), some (.int (Int32.ofNat i))] [] (ml m ad h (l ++ (R0 i).flatMap (fun _ => nb (sbo (a_E S.1) b (a_n S.1))))) (am_pV Q no_x) := by
    intro b hb hpos d
    have hs := w.2 b hb
    have kn := wok_kn w hpos
    have hc3 := (wf.1.2.2.1 b hb).1
    have hf : 0 < sfo (a_E S.1) b (a_n S.1) := by rw [← sbo_sfo]; exact hpos
    have hfl := sfo_le (E := a_E S.1) (b := b) (n := a_n S.1)
    have hcn : 1 ≤ cno (a_B S.1 b) ∧ cno (a_B S.1 b) ≤ 3 ∧ (b_cn (a_B S.1 b) ≠ 0 → cno (a_B S.1 b) = b_cn (a_B S.1 b)) ∧ (b_cn (a_B S.1 b) = 0 → cno (a_B S.1 b) = 1) := by unfold cno; split <;> omega
    induction d with
    | zero =>
      intro i l Q a2 e hl hQ
      have : i = cno (a_B S.1 b) := by omega
      subst this
      have y := xF (l ++ (R0 (cno (a_B S.1 b))).flatMap (fun _ => nb (sbo (a_E S.1) b (a_n S.1))))
      generalize hk : ml m ad h (l ++ (R0 (cno (a_B S.1 b))).flatMap (fun _ => nb (sbo (a_E S.1) b (a_n S.1)))) = k at *
      have s := y.1.1
      have v4 := ((y.1.2.2.2.1 b hb).2.1 kn).1
      refine vc_170_153 tt _ _ _ _ _ _ _ ⟨s.1, _, _, ct_mfilesOf y.1 wf hb, fun r k' e' => ?_, fun _ _ z => z⟩
      obtain ⟨er, ek⟩ := e'
      rw [er, ek]
      simp (disch := omega) only [s.1, md_f s, v4, hb, qi_lt, qi_le, qi_eq, qi_nn, qi_in, qi_add, qi_l, ql_i, ql_lt, ql_le, ql_eq, ql_add, qc_lt, qc_eq, qc_ge, qc_gt, qc_le, true_and, and_true, and_self, true_or, or_true, false_or, or_false, false_and, and_false, not_true_eq_false, not_false_eq_true, Classical.not_not, true_implies, false_implies, implies_true, exists_eq_left, exists_eq_left', Option.some.injEq, reduceIte, Nat.reduceEqDiff, Nat.reduceLT, Nat.reduceLeDiff, Nat.reduceAdd, Nat.reduceSub, Nat.reduceMul, eq_self, ne_eq, and_imp, forall_const, reduceCtorEq, am_w, List.map_cons, List.map_nil, List.sum_cons, List.sum_nil, Value.category, Nat.zero_le, Nat.le_refl]
      have fin := vc_170_201 tt m a2 (Int32.ofNat b) k Q no_x (by rw [qi_add]; exact hQ)
      refine ⟨fun _ => fin, fun _ => ⟨fun z => ⟨fun _ => fin, fun z2 => by have := hcn.2.2.1 z; omega⟩, fun z => ⟨fun _ => fin, fun z2 => by have := hcn.2.2.2 z; omega⟩⟩⟩
    | succ d ih =>
      intro i l Q a2 e hl hQ
      have y := xF (l ++ (R0 i).flatMap (fun _ => nb (sbo (a_E S.1) b (a_n S.1))))
      have nx := ih (i + 1) l Q a2 (by omega) hl hQ
      rw [fm_s, ← List.append_assoc, ← ml_app] at nx
      have fl := fm_le (g := fun _ => nb (sbo (a_E S.1) b (a_n S.1))) (i := i) (n := cno (a_B S.1 b)) (by omega)
      rw [List.length_append] at y hl
      generalize hk : ml m ad h (l ++ (R0 i).flatMap (fun _ => nb (sbo (a_E S.1) b (a_n S.1)))) = k at *
      have s := y.1.1
      have v4 := ((y.1.2.2.2.1 b hb).2.1 kn).1
      refine vc_170_153 tt _ _ _ _ _ _ _ ⟨s.1, _, _, ct_mfilesOf y.1 wf hb, fun r k' e' => ?_, fun _ _ z => z⟩
      obtain ⟨er, ek⟩ := e'
      rw [er, ek]
      simp (disch := omega) only [s.1, md_f s, v4, hb, qi_lt, qi_le, qi_eq, qi_nn, qi_in, qi_add, qi_l, ql_i, ql_lt, ql_le, ql_eq, ql_add, qc_lt, qc_eq, qc_ge, qc_gt, qc_le, true_and, and_true, and_self, true_or, or_true, false_or, or_false, false_and, and_false, not_true_eq_false, not_false_eq_true, Classical.not_not, true_implies, false_implies, implies_true, exists_eq_left, exists_eq_left', Option.some.injEq, reduceIte, Nat.reduceEqDiff, Nat.reduceLT, Nat.reduceLeDiff, Nat.reduceAdd, Nat.reduceSub, Nat.reduceMul, eq_self, ne_eq, and_imp, forall_const, reduceCtorEq, am_w, List.map_cons, List.map_nil, List.sum_cons, List.sum_nil, Value.category, Nat.zero_le, Nat.le_refl]
      have go : ∃ (Q7 : Int32 → am_H → Prop) (X7 : String → am_H → Prop), am_Ct tt 165 [.ref m, .int (Int32.ofNat b)] k (am_pI Q7 X7) ∧ (∀ x8 h6, Q7 x8 h6 → (am_K h6 m = 11 ∧ ∃ (Q10 : am_H → Prop) (X10 : String → am_H → Prop), am_Ct tt 160 [.ref m, .long (x8).toInt64] h6 (am_pV Q10 X10) ∧ (∀ h9, Q10 h9 → am_Ev tt 170 153 [some (.ref m), none, some (.int a2), some (.int (Int32.ofNat b)), some (.int (Int32.ofNat (i + 1)))] [] h9 (am_pV Q no_x)) ∧ (∀ E h9, X10 E h9 → no_x E h9))) ∧ (∀ E h6, X7 E h6 → no_x E h6) := by
        refine ⟨_, _, ct_mbytesOf y.1 wf hb, fun r k' e' => ?_, fun _ _ z => z⟩
        obtain ⟨er, ek⟩ := e'
        rw [er, ek]
        exact y.n (k := sbo (a_E S.1) b (a_n S.1)) (by omega) (by omega) (by rw [qi_l (by omega)]) fun h2 e2 x2 => by rw [e2]; exact nx
      refine ⟨fun z => by omega, fun _ => ⟨fun z => ⟨fun z2 => by have := hcn.2.2.1 z; omega, fun _ => go⟩, fun z => ⟨fun z2 => by have := hcn.2.2.2 z; omega, fun _ => go⟩⟩⟩
  have keyG : ∀ (d i : Nat) (l : List Int32), d + i = 6 → n + (l ++ (wGi S.1 ++ ([Int32.ofNat 0, Int32.ofNat 8] ++ R4))).length ≤ 9300 →
      am_Ev tt 170 144 [some (.ref m), none, some (.int (b01 (smb (a_E S.1) (a_n S.1) 6))), some (.int (Int32.ofNat i)), none] [] (ml m ad h (l ++ (R0 i).flatMap (fun b => if 0 < sbo (a_E S.1) b (a_n S.1) then (R0 (cno (a_B S.1 b))).flatMap (fun _ => nb (sbo (a_E S.1) b (a_n S.1))) else []))) (am_pV (fun h' => h' = ml m ad h (l ++ (wGi S.1 ++ ([Int32.ofNat 0, Int32.ofNat 8] ++ R4)))) no_x) := by
    intro d
    induction d with
    | zero =>
      intro i l e hl
      have : i = 6 := by omega
      subst this
      show am_Ev tt 170 144 _ _ (ml m ad h (l ++ wGi S.1)) _
      have y := xF (l ++ wGi S.1)
      have hl' := hl
      simp only [List.length_append, List.length_cons, List.length_nil] at hl' y
      refine vc_170_144 tt _ _ _ _ _ _ ⟨fun _ => y.b (by omega) rfl fun h1 e1 x1 => x1.b (by omega) rfl fun h2 e2 x2 => ⟨fun z => ?_, fun z => ?_⟩, fun z => absurd (by decide) z⟩
      · rw [b01_z, smb_6, decide_eq_false_iff_not] at z
        rw [if_neg z, List.nil_append] at hR4
        rw [← hR4] at hl ⊢
        have := key353 (l ++ (wGi S.1 ++ [Int32.ofNat 0, Int32.ofNat 8])) (by simp only [List.append_assoc] at hl ⊢; exact hl)
        rw [e2, e1, ml_app, ml_app]
        simp only [List.append_assoc, List.cons_append, List.nil_append] at this ⊢
        exact this
      · rw [b01_z, smb_6, Bool.not_eq_false, decide_eq_true_iff] at z
        rw [if_pos z] at hR4
        rw [← hR4] at hl hl' ⊢
        simp only [List.length_append, List.length_cons, List.length_nil] at hl'
        refine x2.b (by omega) rfl fun h3 e3 x3 => ?_
        have := keyF 6 0 (l ++ (wGi S.1 ++ ([Int32.ofNat 0, Int32.ofNat 8] ++ [Int32.ofNat 13]))) (by omega) (by simp only [List.append_assoc] at hl ⊢; exact hl)
        rw [show (R0 0).flatMap (fun b => if 0 < sfo (a_E S.1) b (a_n S.1) then nb (sfo (a_E S.1) b (a_n S.1)) else []) = [] from rfl, List.append_nil] at this
        rw [e3, e2, e1, ml_app, ml_app, ml_app]
        simp only [List.append_assoc, List.cons_append, List.nil_append] at this ⊢
        exact this
    | succ d ih =>
      intro i l e hl
      have y := xF (l ++ (R0 i).flatMap (fun b => if 0 < sbo (a_E S.1) b (a_n S.1) then (R0 (cno (a_B S.1 b))).flatMap (fun _ => nb (sbo (a_E S.1) b (a_n S.1))) else []))
      have nx := ih (i + 1) l (by omega) hl
      rw [fm_s, ← List.append_assoc] at nx
      have fl := fm_le (g := fun b => if 0 < sbo (a_E S.1) b (a_n S.1) then (R0 (cno (a_B S.1 b))).flatMap (fun _ => nb (sbo (a_E S.1) b (a_n S.1))) else []) (i := i) (n := 6) (by omega)
      have fl : _ ≤ (wGi S.1).length := fl
      rw [List.length_append, List.length_append] at hl
      have hfl := sfo_le (E := a_E S.1) (b := i) (n := a_n S.1)
      refine vc_170_144 tt _ _ _ _ _ _ ?_
      simp (disch := omega) only [qi_lt, qi_le, qi_eq, qi_nn, qi_in, qi_add, qi_l, ql_i, ql_lt, ql_le, ql_eq, ql_add, qc_lt, qc_eq, qc_ge, qc_gt, qc_le, true_and, and_true, and_self, true_or, or_true, false_or, or_false, false_and, and_false, not_true_eq_false, not_false_eq_true, Classical.not_not, true_implies, false_implies, implies_true, exists_eq_left, exists_eq_left', Option.some.injEq, reduceIte, Nat.reduceEqDiff, Nat.reduceLT, Nat.reduceLeDiff, Nat.reduceAdd, Nat.reduceSub, Nat.reduceMul, eq_self, ne_eq, and_imp, forall_const, reduceCtorEq, am_w, List.map_cons, List.map_nil, List.sum_cons, List.sum_nil, Value.category, Nat.zero_le, Nat.le_refl]
      refine ⟨fun z => by omega, fun _ => ?_⟩
      by_cases c : 0 < sbo (a_E S.1) i (a_n S.1)
      · rw [if_pos c] at nx fl
        have := keyG2 i (by omega) c (cno (a_B S.1 i)) 0 (l ++ (R0 i).flatMap (fun b => if 0 < sbo (a_E S.1) b (a_n S.1) then (R0 (cno (a_B S.1 b))).flatMap (fun _ => nb (sbo (a_E S.1) b (a_n S.1))) else [])) _ (b01 (smb (a_E S.1) (a_n S.1) 6)) (by omega) (by rw [List.length_append (as := l ++ _), List.length_append (as := l)]; omega) nx
        rw [show (R0 0).flatMap (fun _ => nb (sbo (a_E S.1) i (a_n S.1))) = [] from rfl, List.append_nil] at this
        exact this
      · rw [if_neg c, List.append_nil] at nx
        have c' : ¬ 0 < sfo (a_E S.1) i (a_n S.1) := by rw [← sbo_sfo]; exact c
        refine vc_170_153 tt _ _ _ _ _ _ _ ⟨y.1.1.1, _, _, ct_mfilesOf y.1 wf (b := i) (by omega), fun r k' e' => ?_, fun _ _ z => z⟩
        obtain ⟨er, ek⟩ := e'
        rw [er, ek, qi_le (by omega) (by omega)]
        exact ⟨fun _ => vc_170_201 tt _ _ _ _ _ _ (by rw [qi_add]; exact nx), fun z => by omega⟩
  generalize hR3 : (wGi S.1 ++ ([Int32.ofNat 0, Int32.ofNat 8] ++ R4)) = R3 at keyG
  -- folders
  have keyO : ∀ (d i : Nat) (l : List Int32), d + i = 6 → n + (l ++ (wFo S.1 ++ ([Int32.ofNat 12] ++ R3))).length ≤ 9300 →
      am_Ev tt 170 111 [some (.ref m), none, some (.int (b01 (smb (a_E S.1) (a_n S.1) 6))), some (.int (Int32.ofNat i)), none] [] (ml m ad h (l ++ (R0 i).flatMap (fun b => if 0 < sbo (a_E S.1) b (a_n S.1) then fold (a_B S.1 b) else []))) (am_pV (fun h' => h' = ml m ad h (l ++ (wFo S.1 ++ ([Int32.ofNat 12] ++ R3)))) no_x) := by
    intro d
    induction d with
    | zero =>
      intro i l e hl
      have : i = 6 := by omega
      subst this
      show am_Ev tt 170 111 _ _ (ml m ad h (l ++ wFo S.1)) _
      have y := xF (l ++ wFo S.1)
      have hl' := hl
      simp only [List.length_append, List.length_cons, List.length_nil] at hl' y
      refine vc_170_111 tt _ _ _ _ _ _ ⟨fun _ => y.b (by omega) rfl fun h1 e1 x1 => ?_, fun z => absurd (by decide) z⟩
      have := keyG 6 0 (l ++ (wFo S.1 ++ [Int32.ofNat 12])) (by omega) (by simp only [List.append_assoc] at hl ⊢; exact hl)
      rw [show (R0 0).flatMap (fun b => if 0 < sbo (a_E S.1) b (a_n S.1) then (R0 (cno (a_B S.1 b))).flatMap (fun _ => nb (sbo (a_E S.1) b (a_n S.1))) else []) = [] from rfl, List.append_nil] at this
      rw [e1, ml_app]
      simp only [List.append_assoc] at this ⊢
      exact this
    | succ d ih =>
      intro i l e hl
      have y := xF (l ++ (R0 i).flatMap (fun b => if 0 < sbo (a_E S.1) b (a_n S.1) then fold (a_B S.1 b) else []))
      have nx := ih (i + 1) l (by omega) hl
      rw [fm_s, ← List.append_assoc, ← ml_app] at nx
      have fl := fm_le (g := fun b => if 0 < sbo (a_E S.1) b (a_n S.1) then fold (a_B S.1 b) else []) (i := i) (n := 6) (by omega)
      have fl : _ ≤ (wFo S.1).length := fl
      have hs := sfo_le (E := a_E S.1) (b := i) (n := a_n S.1)
      rw [List.length_append] at y
      rw [List.length_append, List.length_append] at hl
      generalize hk : ml m ad h (l ++ (R0 i).flatMap (fun b => if 0 < sbo (a_E S.1) b (a_n S.1) then fold (a_B S.1 b) else [])) = k at *
      refine vc_170_111 tt _ _ _ _ _ _ ?_
      simp (disch := omega) only [y.1.1.1, qi_lt, qi_le, qi_eq, qi_nn, qi_in, qi_add, qi_l, ql_i, ql_lt, ql_le, ql_eq, ql_add, qc_lt, qc_eq, qc_ge, qc_gt, qc_le, true_and, and_true, and_self, true_or, or_true, false_or, or_false, false_and, and_false, not_true_eq_false, not_false_eq_true, Classical.not_not, true_implies, false_implies, implies_true, exists_eq_left, exists_eq_left', Option.some.injEq, reduceIte, Nat.reduceEqDiff, Nat.reduceLT, Nat.reduceLeDiff, Nat.reduceAdd, Nat.reduceSub, Nat.reduceMul, eq_self, ne_eq, and_imp, forall_const, reduceCtorEq, am_w, List.map_cons, List.map_nil, List.sum_cons, List.sum_nil, Value.category, Nat.zero_le, Nat.le_refl]
      refine ⟨fun z => by omega, fun _ => ⟨_, _, ct_mfilesOf y.1 wf (b := i) (by omega), fun r k' e' => ?_, fun _ _ z => z⟩⟩
      obtain ⟨er, ek⟩ := e'
      rw [er, ek, qi_le (by omega) (by omega)]
      refine ⟨fun z => ?_, fun z => ?_⟩
      · have c : ¬ 0 < sbo (a_E S.1) i (a_n S.1) := by rw [sbo_sfo]; omega
        rw [if_neg c, ml_nil] at nx
        exact vc_170_130 tt _ _ _ _ _ _ (by rw [qi_add]; exact nx)
      · have c : 0 < sbo (a_E S.1) i (a_n S.1) := by rw [sbo_sfo]; omega
        rw [if_pos c] at nx fl
        exact ⟨y.1.1.1, _, _, ct_putFolder y (b := i) (by omega) (wok_kn w c) (by omega), fun k2 e2 => vc_170_130 tt _ _ _ _ _ _ (by rw [e2, qi_add]; exact nx), fun _ _ z => z⟩
  generalize hR2 : (wFo S.1 ++ ([Int32.ofNat 12] ++ R3)) = R2 at keyO
  -- packed sizes
  have keyP : ∀ (d i : Nat) (l : List Int32), d + i = 6 → n + (l ++ (wSz S.1 ++ ([Int32.ofNat 0, Int32.ofNat 7, Int32.ofNat 11] ++ (nb (kb S.1) ++ ([Int32.ofNat 0] ++ R2))))).length ≤ 9300 →
      am_Ev tt 170 32 [some (.ref m), some (.int (Int32.ofNat (kb S.1))), some (.int (b01 (smb (a_E S.1) (a_n S.1) i))), some (.int (Int32.ofNat i)), none] [] (ml m ad h (l ++ (R0 i).flatMap (fun b => if 0 < sbo (a_E S.1) b (a_n S.1) then nb (sbo (a_E S.1) b (a_n S.1)) else []))) (am_pV (fun h' => h' = ml m ad h (l ++ (wSz S.1 ++ ([Int32.ofNat 0, Int32.ofNat 7, Int32.ofNat 11] ++ (nb (kb S.1) ++ ([Int32.ofNat 0] ++ R2)))))) no_x) := by
    intro d
    induction d with
    | zero =>
      intro i l e hl
      have : i = 6 := by omega
      subst this
      show am_Ev tt 170 32 _ _ (ml m ad h (l ++ wSz S.1)) _
      have y := xF (l ++ wSz S.1)
      have hl' := hl
      simp only [List.length_append, List.length_cons, List.length_nil] at hl' y
      refine vc_170_32 tt _ _ _ _ _ _ _ ⟨fun _ => y.b (by omega) rfl fun h1 e1 x1 => x1.b (by omega) rfl fun h2 e2 x2 => x2.b (by omega) rfl fun h3 e3 x3 => x3.n (k := kb S.1) (by omega) (by omega) (by rw [qi_l (by omega)]) fun h4 e4 x4 => x4.b (by omega) rfl fun h5 e5 x5 => ?_, fun z => absurd (by decide) z⟩
      have := keyO 6 0 (l ++ (wSz S.1 ++ ([Int32.ofNat 0, Int32.ofNat 7, Int32.ofNat 11] ++ (nb (kb S.1) ++ [Int32.ofNat 0])))) (by omega) (by simp only [List.append_assoc] at hl ⊢; exact hl)
      rw [show (R0 0).flatMap (fun b => if 0 < sbo (a_E S.1) b (a_n S.1) then fold (a_B S.1 b) else []) = [] from rfl, List.append_nil] at this
      rw [e5, e4, e3, e2, e1, ml_app, ml_app, ml_app, ml_app, ml_app]
      simp only [List.append_assoc, List.cons_append, List.nil_append] at this ⊢
      exact this
    | succ d ih =>
      intro i l e hl
      have y := xF (l ++ (R0 i).flatMap (fun b => if 0 < sbo (a_E S.1) b (a_n S.1) then nb (sbo (a_E S.1) b (a_n S.1)) else []))
      have nx := ih (i + 1) l (by omega) hl
      rw [fm_s, ← List.append_assoc, ← ml_app] at nx
      have fl := fm_le (g := fun b => if 0 < sbo (a_E S.1) b (a_n S.1) then nb (sbo (a_E S.1) b (a_n S.1)) else []) (i := i) (n := 6) (by omega)
      have fl : _ ≤ (wSz S.1).length := fl
      have hs := sfo_le (E := a_E S.1) (b := i) (n := a_n S.1)
      have hb := w.2 i (by omega)
      rw [List.length_append] at y
      rw [List.length_append, List.length_append] at hl
      generalize hk : ml m ad h (l ++ (R0 i).flatMap (fun b => if 0 < sbo (a_E S.1) b (a_n S.1) then nb (sbo (a_E S.1) b (a_n S.1)) else [])) = k at *
      refine vc_170_32 tt _ _ _ _ _ _ _ ?_
      simp (disch := omega) only [y.1.1.1, qi_lt, qi_le, qi_eq, qi_nn, qi_in, qi_add, qi_l, ql_i, ql_lt, ql_le, ql_eq, ql_add, qc_lt, qc_eq, qc_ge, qc_gt, qc_le, true_and, and_true, and_self, true_or, or_true, false_or, or_false, false_and, and_false, not_true_eq_false, not_false_eq_true, Classical.not_not, true_implies, false_implies, implies_true, exists_eq_left, exists_eq_left', Option.some.injEq, reduceIte, Nat.reduceEqDiff, Nat.reduceLT, Nat.reduceLeDiff, Nat.reduceAdd, Nat.reduceSub, Nat.reduceMul, eq_self, ne_eq, and_imp, forall_const, reduceCtorEq, am_w, List.map_cons, List.map_nil, List.sum_cons, List.sum_nil, Value.category, Nat.zero_le, Nat.le_refl]
      refine ⟨fun z => by omega, fun _ => ⟨_, _, ct_mfilesOf y.1 wf (b := i) (by omega), fun r k' e' => ?_, fun _ _ z => z⟩⟩
      obtain ⟨er, ek⟩ := e'
      rw [er, ek, qi_le (by omega) (by omega)]
      refine ⟨fun z => ?_, fun z => ⟨y.1.1.1, _, _, ct_mbytesOf y.1 wf (b := i) (by omega), fun r k' e' => ?_, fun _ _ z => z⟩⟩
      · have c : ¬ 0 < sbo (a_E S.1) i (a_n S.1) := by rw [sbo_sfo]; omega
        rw [if_neg c, ml_nil, smb, decide_eq_false (by omega), Bool.or_false] at nx
        exact vc_170_75 tt _ _ _ _ _ _ _ (by rw [qi_add]; exact nx)
      · obtain ⟨er, ek⟩ := e'
        have c : 0 < sbo (a_E S.1) i (a_n S.1) := by rw [sbo_sfo]; omega
        rw [if_pos c] at nx fl
        rw [er, ek]
        refine y.n (k := sbo (a_E S.1) i (a_n S.1)) (by omega) (by omega) (by rw [qi_l (by omega)]) fun h2 e2 x2 => ⟨fun z2 => ?_, fun z2 => ⟨x2.1.1.1, _, _, ct_mfilesOf x2.1 wf (b := i) (by omega), fun r k' e' => ?_, fun _ _ z => z⟩⟩
        · rw [b01_z, Bool.not_eq_false] at z2
          rw [smb, z2, Bool.true_or] at nx
          exact vc_170_69 tt _ _ _ _ _ _ (vc_170_75 tt _ _ _ _ _ _ _ (by rw [e2, qi_add]; exact nx))
        · rw [b01_z] at z2
          obtain ⟨er, ek⟩ := e'
          rw [er, ek, qi_le (by omega) (by omega)]
          rw [smb, z2, Bool.false_or] at nx
          refine ⟨fun z3 => ?_, fun z3 => ?_⟩
          · rw [decide_eq_false (by omega)] at nx
            exact vc_170_75 tt _ _ _ _ _ _ _ (by rw [e2, qi_add]; exact nx)
          · rw [decide_eq_true (by omega)] at nx
            exact vc_170_69 tt _ _ _ _ _ _ (vc_170_75 tt _ _ _ _ _ _ _ (by rw [e2, qi_add]; exact nx))
  have eS : wS S.1 = [Int32.ofNat 4, Int32.ofNat 6] ++ (nb 0 ++ (nb (kb S.1) ++ ([Int32.ofNat 9] ++ (wSz S.1 ++ ([Int32.ofNat 0, Int32.ofNat 7, Int32.ofNat 11] ++ (nb (kb S.1) ++ ([Int32.ofNat 0] ++ R2))))))) := by
    rw [wS, ← hR2, ← hR3, ← hR4, ← hR5]
  rw [eS] at hn ⊢
  have hn' := hn
  simp only [List.length_append, List.length_cons, List.length_nil] at hn'
  refine vc_170_0 tt _ _ h _ _ (x.b (by omega) rfl fun h1 e1 x1 => x1.b (by omega) rfl fun h2 e2 x2 => x2.n (k := 0) (by omega) (by omega) rfl fun h3 e3 x3 => x3.n (k := kb S.1) (by omega) (by omega) (by rw [qi_l (by omega)]) fun h4 e4 x4 => x4.b (by omega) rfl fun h5 e5 x5 => ?_)
  have := keyP 6 0 ([Int32.ofNat 4, Int32.ofNat 6] ++ (nb 0 ++ (nb (kb S.1) ++ [Int32.ofNat 9]))) (by omega) (by simp only [List.append_assoc] at hn ⊢; exact hn)
  rw [show (R0 0).flatMap (fun b => if 0 < sbo (a_E S.1) b (a_n S.1) then nb (sbo (a_E S.1) b (a_n S.1)) else []) = [] from rfl, List.append_nil] at this
  rw [e5, e4, e3, e2, e1, ml_app, ml_app, ml_app, ml_app]
  simp only [List.append_assoc, List.cons_append, List.nil_append] at this ⊢
  exact this
end MS
