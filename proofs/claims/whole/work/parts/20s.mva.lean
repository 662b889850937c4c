/-! deps: 20r -/
/-! ===== the reference reads: times and attributes ===== -/
/-! 197 yX10_valued -/
theorem vc_197_0 (tt : Nat → Nat) (a0 : Nat) (a1 : Int32) (h : am_H) (Q : am_H → Prop) (Qx : String → am_H → Prop) (q :
  am_Ev tt 197 2 [some (.ref a0), some (.int a1), some (.int (Int32.ofNat 0)), none, none, none] [] h (am_pV Q Qx)) :
  am_Ev tt 197 0 [some (.ref a0), some (.int a1), none, none, none, none] [] h (am_pV Q Qx) := am_vc 5 [(2, [true, true, true, false, false, false]), (30, [true, true, false, false, false, false]), (74, [true, true, true, true, true, false]), (79, [true, true, true, true, false, false]), (115, [true, true, false, true, false, true]), (137, [true, true, false, true, false, false]), (140, [true, true, false, true, false, false]), (143, [true, true, false, true, false, true]), (166, [true, true, false, true, false, false]), (174, [true, true, false, true, false, true]), (190, [true, true, false, true, false, true]), (222, [true, true, false, true, false, true]), (245, [true, true, false, true, false, true]), (251, [true, false, false, true, false, false])] q
theorem vc_197_2 (tt : Nat → Nat) (a0 : Nat) (a1 : Int32) (a2 : Int32) (h : am_H) (Q : am_H → Prop) (Qx : String → am_H → Prop) (q :
  (((Int32.ofNat 24) ≤ a2 →
   (am_K h a0 = 11 ∧ ∃ (Q2 : Int32 → am_H → Prop) (X2 : String → am_H → Prop), am_Ct tt 178 [.ref a0] h (am_pI Q2 X2) ∧ (∀ x3 h1, Q2 x3 h1 →
    ((x3 = a1 →
     am_Ev tt 197 30 [some (.ref a0), some (.int a1), none, none, none, none] [] h1 (am_pV Q Qx)) ∧
    (¬ (x3 = a1) →
     Q h1))) ∧ (∀ E4 h1, X2 E4 h1 → Qx E4 h1))) ∧
  (¬ ((Int32.ofNat 24) ≤ a2) →
   (am_K h a0 = 11 ∧ ∃ q5, am_R h 10 26 a0 = some q5 ∧
   (vp_in a2 (am_N h q5) ∧ ∃ w6, ((am_K h q5 = 23 ∧ w6 = ((Int32.ofNat 0)).toInt8.toInt32) ∨ (am_K h q5 = 24 ∧ w6 = ((Int32.ofNat 0) &&& 1))) ∧
   am_Ev tt 197 2 [some (.ref a0), some (.int a1), some (.int (a2 + (Int32.ofNat 1))), none, none, none] [] (am_sA h q5 (a2).toNatClampNeg w6) (am_pV Q Qx)))))) :
  am_Ev tt 197 2 [some (.ref a0), some (.int a1), some (.int a2), none, none, none] [] h (am_pV Q Qx) := am_vc 13 [(2, [true, true, true, false, false, false]), (30, [true, true, false, false, false, false]), (74, [true, true, true, true, true, false]), (79, [true, true, true, true, false, false]), (115, [true, true, false, true, false, true]), (137, [true, true, false, true, false, false]), (140, [true, true, false, true, false, false]), (143, [true, true, false, true, false, true]), (166, [true, true, false, true, false, false]), (174, [true, true, false, true, false, true]), (190, [true, true, false, true, false, true]), (222, [true, true, false, true, false, true]), (245, [true, true, false, true, false, true]), (251, [true, false, false, true, false, false])] q
theorem vc_197_30 (tt : Nat → Nat) (a0 : Nat) (a1 : Int32) (h : am_H) (Q : am_H → Prop) (Qx : String → am_H → Prop) (q :
  (am_K h a0 = 11 ∧
  (am_K h a0 = 11 ∧ ∃ (Q2 : am_H → Prop) (X2 : String → am_H → Prop), am_Ct tt 180 [.ref a0, .int a1] h (am_pV Q2 X2) ∧ (∀ h1, Q2 h1 →
   (am_K h1 a0 = 11 ∧ ∃ (Q4 : am_H → Prop) (X4 : String → am_H → Prop), am_Ct tt 191 [.ref a0] h1 (am_pV Q4 X4) ∧ (∀ h3, Q4 h3 →
    (am_K h3 a0 = 11 ∧
    (am_K h3 a0 = 11 ∧ ∃ (Q6 : Int32 → am_H → Prop) (X6 : String → am_H → Prop), am_Ct tt 179 [.ref a0] h3 (am_pI Q6 X6) ∧ (∀ x7 h5, Q6 x7 h5 →
     (am_K h5 a0 = 11 ∧ ∃ (Q9 : Int32 → am_H → Prop) (X9 : String → am_H → Prop), am_Ct tt 176 [.ref a0] h5 (am_pI Q9 X9) ∧ (∀ x10 h8, Q9 x10 h8 →
      ((x10 = (Int32.ofNat 0) →
       am_Ev tt 197 74 [some (.ref a0), some (.int a1), some (.int (am_I h 10 27 a0)), some (.int (am_I h3 10 27 a0)), some (.int x7), none] [] h8 (am_pV Q Qx)) ∧
      (¬ (x10 = (Int32.ofNat 0)) →
       ((x7 ≤ (Int32.ofNat 1) →
        am_Ev tt 197 74 [some (.ref a0), some (.int a1), some (.int (am_I h 10 27 a0)), some (.int (am_I h3 10 27 a0)), some (.int x7), none] [] h8 (am_pV Q Qx)) ∧
       (¬ (x7 ≤ (Int32.ofNat 1)) →
        (am_K h8 a0 = 11 ∧ ∃ (Q12 : am_H → Prop) (X12 : String → am_H → Prop), am_Ct tt 177 [.ref a0, .int (Int32.ofNat 2), .int (am_I h3 10 27 a0)] h8 (am_pV Q12 X12) ∧ (∀ h11, Q12 h11 →
         am_Ev tt 197 74 [some (.ref a0), some (.int a1), some (.int (am_I h 10 27 a0)), some (.int (am_I h3 10 27 a0)), some (.int x7), none] [] h11 (am_pV Q Qx)) ∧ (∀ E13 h11, X12 E13 h11 → Qx E13 h11))))))) ∧ (∀ E14 h8, X9 E14 h8 → Qx E14 h8))) ∧ (∀ E15 h5, X6 E15 h5 → Qx E15 h5)))) ∧ (∀ E16 h3, X4 E16 h3 → Qx E16 h3))) ∧ (∀ E17 h1, X2 E17 h1 → Qx E17 h1)))) :
  am_Ev tt 197 30 [some (.ref a0), some (.int a1), none, none, none, none] [] h (am_pV Q Qx) := am_vc 27 [(2, [true, true, true, false, false, false]), (30, [true, true, false, false, false, false]), (74, [true, true, true, true, true, false]), (79, [true, true, true, true, false, false]), (115, [true, true, false, true, false, true]), (137, [true, true, false, true, false, false]), (140, [true, true, false, true, false, false]), (143, [true, true, false, true, false, true]), (166, [true, true, false, true, false, false]), (174, [true, true, false, true, false, true]), (190, [true, true, false, true, false, true]), (222, [true, true, false, true, false, true]), (245, [true, true, false, true, false, true]), (251, [true, false, false, true, false, false])] q
theorem vc_197_74 (tt : Nat → Nat) (a0 : Nat) (a1 : Int32) (a2 : Int32) (a3 : Int32) (a4 : Int32) (h : am_H) (Q : am_H → Prop) (Qx : String → am_H → Prop) (q :
  ((¬ a4 = (Int32.ofNat 0) →
   am_Ev tt 197 140 [some (.ref a0), some (.int a1), none, some (.int a3), none, none] [] h (am_pV Q Qx)) ∧
  (¬ (¬ a4 = (Int32.ofNat 0)) →
   am_Ev tt 197 79 [some (.ref a0), some (.int a1), some (.int a2), some (.int a3), none, none] [] h (am_pV Q Qx)))) :
  am_Ev tt 197 74 [some (.ref a0), some (.int a1), some (.int a2), some (.int a3), some (.int a4), none] [] h (am_pV Q Qx) := am_vc 5 [(2, [true, true, true, false, false, false]), (30, [true, true, false, false, false, false]), (74, [true, true, true, true, true, false]), (79, [true, true, true, true, false, false]), (115, [true, true, false, true, false, true]), (137, [true, true, false, true, false, false]), (140, [true, true, false, true, false, false]), (143, [true, true, false, true, false, true]), (166, [true, true, false, true, false, false]), (174, [true, true, false, true, false, true]), (190, [true, true, false, true, false, true]), (222, [true, true, false, true, false, true]), (245, [true, true, false, true, false, true]), (251, [true, false, false, true, false, false])] q
theorem vc_197_79 (tt : Nat → Nat) (a0 : Nat) (a1 : Int32) (a2 : Int32) (a3 : Int32) (h : am_H) (Q : am_H → Prop) (Qx : String → am_H → Prop) (q :
  (am_K h a0 = 11 ∧
  (am_K h a0 = 11 ∧ ∃ (Q2 : am_H → Prop) (X2 : String → am_H → Prop), am_Ct tt 184 [.ref a0, .int (am_I h 10 41 a0)] h (am_pV Q2 X2) ∧ (∀ h1, Q2 h1 →
   (am_K h1 a0 = 11 ∧
   (am_K h1 a0 = 11 ∧ ∃ (Q4 : Int32 → am_H → Prop) (X4 : String → am_H → Prop), am_Ct tt 163 [.ref a0, .int (am_I h1 10 41 a0)] h1 (am_pI Q4 X4) ∧ (∀ x5 h3, Q4 x5 h3 →
    (am_K h3 a0 = 11 ∧ ∃ (Q7 : Int32 → am_H → Prop) (X7 : String → am_H → Prop), am_Ct tt 176 [.ref a0] h3 (am_pI Q7 X7) ∧ (∀ x8 h6, Q7 x8 h6 →
     ((x8 = (Int32.ofNat 0) →
      am_Ev tt 197 115 [some (.ref a0), some (.int a1), none, some (.int a3), none, some (.int x5)] [] h6 (am_pV Q Qx)) ∧
     (¬ (x8 = (Int32.ofNat 0)) →
      ((¬ x5 = (Int32.ofNat 0) →
       am_Ev tt 197 115 [some (.ref a0), some (.int a1), none, some (.int a3), none, some (.int x5)] [] h6 (am_pV Q Qx)) ∧
      (¬ (¬ x5 = (Int32.ofNat 0)) →
       (am_K h6 a0 = 11 ∧ ∃ (Q10 : am_H → Prop) (X10 : String → am_H → Prop), am_Ct tt 177 [.ref a0, .int (Int32.ofNat 2), .int a2] h6 (am_pV Q10 X10) ∧ (∀ h9, Q10 h9 →
        am_Ev tt 197 115 [some (.ref a0), some (.int a1), none, some (.int a3), none, some (.int x5)] [] h9 (am_pV Q Qx)) ∧ (∀ E11 h9, X10 E11 h9 → Qx E11 h9))))))) ∧ (∀ E12 h6, X7 E12 h6 → Qx E12 h6))) ∧ (∀ E13 h3, X4 E13 h3 → Qx E13 h3)))) ∧ (∀ E14 h1, X2 E14 h1 → Qx E14 h1)))) :
  am_Ev tt 197 79 [some (.ref a0), some (.int a1), some (.int a2), some (.int a3), none, none] [] h (am_pV Q Qx) := am_vc 21 [(2, [true, true, true, false, false, false]), (30, [true, true, false, false, false, false]), (74, [true, true, true, true, true, false]), (79, [true, true, true, true, false, false]), (115, [true, true, false, true, false, true]), (137, [true, true, false, true, false, false]), (140, [true, true, false, true, false, false]), (143, [true, true, false, true, false, true]), (166, [true, true, false, true, false, false]), (174, [true, true, false, true, false, true]), (190, [true, true, false, true, false, true]), (222, [true, true, false, true, false, true]), (245, [true, true, false, true, false, true]), (251, [true, false, false, true, false, false])] q
theorem vc_197_115 (tt : Nat → Nat) (a0 : Nat) (a1 : Int32) (a3 : Int32) (a5 : Int32) (h : am_H) (Q : am_H → Prop) (Qx : String → am_H → Prop) (q :
  (am_K h a0 = 11 ∧ ∃ (Q2 : Int32 → am_H → Prop) (X2 : String → am_H → Prop), am_Ct tt 176 [.ref a0] h (am_pI Q2 X2) ∧ (∀ x3 h1, Q2 x3 h1 →
   ((x3 = (Int32.ofNat 0) →
    am_Ev tt 197 137 [some (.ref a0), some (.int a1), none, some (.int a3), none, none] [] h1 (am_pV Q Qx)) ∧
   (¬ (x3 = (Int32.ofNat 0)) →
    (am_K h1 a0 = 11 ∧
    ((¬ a5 = (am_I h1 10 41 a0) →
     am_Ev tt 197 137 [some (.ref a0), some (.int a1), none, some (.int a3), none, none] [] h1 (am_pV Q Qx)) ∧
    (¬ (¬ a5 = (am_I h1 10 41 a0)) →
     (am_K h1 a0 = 11 ∧ ∃ (Q5 : am_H → Prop) (X5 : String → am_H → Prop), am_Ct tt 177 [.ref a0, .int (Int32.ofNat 2), .int a3] h1 (am_pV Q5 X5) ∧ (∀ h4, Q5 h4 →
      am_Ev tt 197 137 [some (.ref a0), some (.int a1), none, some (.int a3), none, none] [] h4 (am_pV Q Qx)) ∧ (∀ E6 h4, X5 E6 h4 → Qx E6 h4)))))))) ∧ (∀ E7 h1, X2 E7 h1 → Qx E7 h1))) :
  am_Ev tt 197 115 [some (.ref a0), some (.int a1), none, some (.int a3), none, some (.int a5)] [] h (am_pV Q Qx) := am_vc 14 [(2, [true, true, true, false, false, false]), (30, [true, true, false, false, false, false]), (74, [true, true, true, true, true, false]), (79, [true, true, true, true, false, false]), (115, [true, true, false, true, false, true]), (137, [true, true, false, true, false, false]), (140, [true, true, false, true, false, false]), (143, [true, true, false, true, false, true]), (166, [true, true, false, true, false, false]), (174, [true, true, false, true, false, true]), (190, [true, true, false, true, false, true]), (222, [true, true, false, true, false, true]), (245, [true, true, false, true, false, true]), (251, [true, false, false, true, false, false])] q
theorem vc_197_137 (tt : Nat → Nat) (a0 : Nat) (a1 : Int32) (a3 : Int32) (h : am_H) (Q : am_H → Prop) (Qx : String → am_H → Prop) (q :
  am_Ev tt 197 166 [some (.ref a0), some (.int a1), none, some (.int a3), none, none] [] h (am_pV Q Qx)) :
  am_Ev tt 197 137 [some (.ref a0), some (.int a1), none, some (.int a3), none, none] [] h (am_pV Q Qx) := am_vc 4 [(2, [true, true, true, false, false, false]), (30, [true, true, false, false, false, false]), (74, [true, true, true, true, true, false]), (79, [true, true, true, true, false, false]), (115, [true, true, false, true, false, true]), (137, [true, true, false, true, false, false]), (140, [true, true, false, true, false, false]), (143, [true, true, false, true, false, true]), (166, [true, true, false, true, false, false]), (174, [true, true, false, true, false, true]), (190, [true, true, false, true, false, true]), (222, [true, true, false, true, false, true]), (245, [true, true, false, true, false, true]), (251, [true, false, false, true, false, false])] q
theorem vc_197_140 (tt : Nat → Nat) (a0 : Nat) (a1 : Int32) (a3 : Int32) (h : am_H) (Q : am_H → Prop) (Qx : String → am_H → Prop) (q :
  am_Ev tt 197 143 [some (.ref a0), some (.int a1), none, some (.int a3), none, some (.int (Int32.ofNat 0))] [] h (am_pV Q Qx)) :
  am_Ev tt 197 140 [some (.ref a0), some (.int a1), none, some (.int a3), none, none] [] h (am_pV Q Qx) := am_vc 5 [(2, [true, true, true, false, false, false]), (30, [true, true, false, false, false, false]), (74, [true, true, true, true, true, false]), (79, [true, true, true, true, false, false]), (115, [true, true, false, true, false, true]), (137, [true, true, false, true, false, false]), (140, [true, true, false, true, false, false]), (143, [true, true, false, true, false, true]), (166, [true, true, false, true, false, false]), (174, [true, true, false, true, false, true]), (190, [true, true, false, true, false, true]), (222, [true, true, false, true, false, true]), (245, [true, true, false, true, false, true]), (251, [true, false, false, true, false, false])] q
theorem vc_197_143 (tt : Nat → Nat) (a0 : Nat) (a1 : Int32) (a3 : Int32) (a5 : Int32) (h : am_H) (Q : am_H → Prop) (Qx : String → am_H → Prop) (q :
  (am_K h a0 = 11 ∧
  (((am_I h 10 41 a0) ≤ a5 →
   am_Ev tt 197 166 [some (.ref a0), some (.int a1), none, some (.int a3), none, none] [] h (am_pV Q Qx)) ∧
  (¬ ((am_I h 10 41 a0) ≤ a5) →
   (am_K h a0 = 11 ∧ ∃ q1, am_R h 10 26 a0 = some q1 ∧
   (vp_in a5 (am_N h q1) ∧ ∃ w2, ((am_K h q1 = 23 ∧ w2 = ((Int32.ofNat 1)).toInt8.toInt32) ∨ (am_K h q1 = 24 ∧ w2 = ((Int32.ofNat 1) &&& 1))) ∧
   am_Ev tt 197 143 [some (.ref a0), some (.int a1), none, some (.int a3), none, some (.int (a5 + (Int32.ofNat 1)))] [] (am_sA h q1 (a5).toNatClampNeg w2) (am_pV Q Qx))))))) :
  am_Ev tt 197 143 [some (.ref a0), some (.int a1), none, some (.int a3), none, some (.int a5)] [] h (am_pV Q Qx) := am_vc 14 [(2, [true, true, true, false, false, false]), (30, [true, true, false, false, false, false]), (74, [true, true, true, true, true, false]), (79, [true, true, true, true, false, false]), (115, [true, true, false, true, false, true]), (137, [true, true, false, true, false, false]), (140, [true, true, false, true, false, false]), (143, [true, true, false, true, false, true]), (166, [true, true, false, true, false, false]), (174, [true, true, false, true, false, true]), (190, [true, true, false, true, false, true]), (222, [true, true, false, true, false, true]), (245, [true, true, false, true, false, true]), (251, [true, false, false, true, false, false])] q
theorem vc_197_166 (tt : Nat → Nat) (a0 : Nat) (a1 : Int32) (a3 : Int32) (h : am_H) (Q : am_H → Prop) (Qx : String → am_H → Prop) (q :
  (am_K h a0 = 11 ∧ ∃ (Q2 : am_H → Prop) (X2 : String → am_H → Prop), am_Ct tt 180 [.ref a0, .int (Int32.ofNat 0)] h (am_pV Q2 X2) ∧ (∀ h1, Q2 h1 →
   am_Ev tt 197 174 [some (.ref a0), some (.int a1), none, some (.int a3), none, some (.int (Int32.ofNat 0))] [] h1 (am_pV Q Qx)) ∧ (∀ E3 h1, X2 E3 h1 → Qx E3 h1))) :
  am_Ev tt 197 166 [some (.ref a0), some (.int a1), none, some (.int a3), none, none] [] h (am_pV Q Qx) := am_vc 8 [(2, [true, true, true, false, false, false]), (30, [true, true, false, false, false, false]), (74, [true, true, true, true, true, false]), (79, [true, true, true, true, false, false]), (115, [true, true, false, true, false, true]), (137, [true, true, false, true, false, false]), (140, [true, true, false, true, false, false]), (143, [true, true, false, true, false, true]), (166, [true, true, false, true, false, false]), (174, [true, true, false, true, false, true]), (190, [true, true, false, true, false, true]), (222, [true, true, false, true, false, true]), (245, [true, true, false, true, false, true]), (251, [true, false, false, true, false, false])] q
theorem vc_197_174 (tt : Nat → Nat) (a0 : Nat) (a1 : Int32) (a3 : Int32) (a5 : Int32) (h : am_H) (Q : am_H → Prop) (Qx : String → am_H → Prop) (q :
  (am_K h a0 = 11 ∧
  (((am_I h 10 41 a0) ≤ a5 →
   am_Ev tt 197 251 [some (.ref a0), none, none, some (.int a3), none, none] [] h (am_pV Q Qx)) ∧
  (¬ ((am_I h 10 41 a0) ≤ a5) →
   (am_K h a0 = 11 ∧ ∃ (Q2 : Int32 → am_H → Prop) (X2 : String → am_H → Prop), am_Ct tt 176 [.ref a0] h (am_pI Q2 X2) ∧ (∀ x3 h1, Q2 x3 h1 →
    ((x3 = (Int32.ofNat 0) →
     am_Ev tt 197 251 [some (.ref a0), none, none, some (.int a3), none, none] [] h1 (am_pV Q Qx)) ∧
    (¬ (x3 = (Int32.ofNat 0)) →
     am_Ev tt 197 190 [some (.ref a0), some (.int a1), none, some (.int a3), none, some (.int a5)] [] h1 (am_pV Q Qx)))) ∧ (∀ E4 h1, X2 E4 h1 → Qx E4 h1)))))) :
  am_Ev tt 197 174 [some (.ref a0), some (.int a1), none, some (.int a3), none, some (.int a5)] [] h (am_pV Q Qx) := am_vc 10 [(2, [true, true, true, false, false, false]), (30, [true, true, false, false, false, false]), (74, [true, true, true, true, true, false]), (79, [true, true, true, true, false, false]), (115, [true, true, false, true, false, true]), (137, [true, true, false, true, false, false]), (140, [true, true, false, true, false, false]), (143, [true, true, false, true, false, true]), (166, [true, true, false, true, false, false]), (174, [true, true, false, true, false, true]), (190, [true, true, false, true, false, true]), (222, [true, true, false, true, false, true]), (245, [true, true, false, true, false, true]), (251, [true, false, false, true, false, false])] q
theorem vc_197_190 (tt : Nat → Nat) (a0 : Nat) (a1 : Int32) (a3 : Int32) (a5 : Int32) (h : am_H) (Q : am_H → Prop) (Qx : String → am_H → Prop) (q :
  (am_K h a0 = 11 ∧ ∃ q1, am_R h 10 26 a0 = some q1 ∧
  ((am_K h q1 = 23 ∨ am_K h q1 = 24) ∧ vp_in a5 (am_N h q1) ∧
  (((am_A h q1 (a5).toNatClampNeg) = (Int32.ofNat 0) →
   am_Ev tt 197 222 [some (.ref a0), some (.int a1), none, some (.int a3), none, some (.int a5)] [] h (am_pV Q Qx)) ∧
  (¬ ((am_A h q1 (a5).toNatClampNeg) = (Int32.ofNat 0)) →
   ((¬ a1 = (Int32.ofNat 20) →
    am_Ev tt 197 222 [some (.ref a0), some (.int a1), none, some (.int a3), none, some (.int a5)] [] h (am_pV Q Qx)) ∧
   (¬ (¬ a1 = (Int32.ofNat 20)) →
    (am_K h a0 = 11 ∧ ∃ q2, am_R h 10 48 a0 = some q2 ∧
    (am_K h a0 = 11 ∧ ∃ (Q4 : Int64 → am_H → Prop) (X4 : String → am_H → Prop), am_Ct tt 183 [.ref a0, .int (Int32.ofNat 8)] h (am_pL Q4 X4) ∧ (∀ x5 h3, Q4 x5 h3 →
     (am_K h3 q2 = 22 ∧ vp_in a5 (am_N h3 q2) ∧
     am_Ev tt 197 245 [some (.ref a0), some (.int a1), none, some (.int a3), none, some (.int a5)] [] (am_sB h3 q2 (a5).toNatClampNeg x5) (am_pV Q Qx))) ∧ (∀ E6 h3, X4 E6 h3 → Qx E6 h3)))))))))) :
  am_Ev tt 197 190 [some (.ref a0), some (.int a1), none, some (.int a3), none, some (.int a5)] [] h (am_pV Q Qx) := am_vc 19 [(2, [true, true, true, false, false, false]), (30, [true, true, false, false, false, false]), (74, [true, true, true, true, true, false]), (79, [true, true, true, true, false, false]), (115, [true, true, false, true, false, true]), (137, [true, true, false, true, false, false]), (140, [true, true, false, true, false, false]), (143, [true, true, false, true, false, true]), (166, [true, true, false, true, false, false]), (174, [true, true, false, true, false, true]), (190, [true, true, false, true, false, true]), (222, [true, true, false, true, false, true]), (245, [true, true, false, true, false, true]), (251, [true, false, false, true, false, false])] q
theorem vc_197_222 (tt : Nat → Nat) (a0 : Nat) (a1 : Int32) (a3 : Int32) (a5 : Int32) (h : am_H) (Q : am_H → Prop) (Qx : String → am_H → Prop) (q :
  (am_K h a0 = 11 ∧ ∃ q1, am_R h 10 26 a0 = some q1 ∧
  ((am_K h q1 = 23 ∨ am_K h q1 = 24) ∧ vp_in a5 (am_N h q1) ∧
  (((am_A h q1 (a5).toNatClampNeg) = (Int32.ofNat 0) →
   am_Ev tt 197 245 [some (.ref a0), some (.int a1), none, some (.int a3), none, some (.int a5)] [] h (am_pV Q Qx)) ∧
  (¬ ((am_A h q1 (a5).toNatClampNeg) = (Int32.ofNat 0)) →
   (am_K h a0 = 11 ∧ ∃ q2, am_R h 10 50 a0 = some q2 ∧
   (am_K h a0 = 11 ∧ ∃ (Q4 : Int64 → am_H → Prop) (X4 : String → am_H → Prop), am_Ct tt 183 [.ref a0, .int (Int32.ofNat 4)] h (am_pL Q4 X4) ∧ (∀ x5 h3, Q4 x5 h3 →
    (am_K h3 q2 = 21 ∧ vp_in a5 (am_N h3 q2) ∧
    am_Ev tt 197 245 [some (.ref a0), some (.int a1), none, some (.int a3), none, some (.int a5)] [] (am_sA h3 q2 (a5).toNatClampNeg (x5).toInt32) (am_pV Q Qx))) ∧ (∀ E6 h3, X4 E6 h3 → Qx E6 h3)))))))) :
  am_Ev tt 197 222 [some (.ref a0), some (.int a1), none, some (.int a3), none, some (.int a5)] [] h (am_pV Q Qx) := am_vc 16 [(2, [true, true, true, false, false, false]), (30, [true, true, false, false, false, false]), (74, [true, true, true, true, true, false]), (79, [true, true, true, true, false, false]), (115, [true, true, false, true, false, true]), (137, [true, true, false, true, false, false]), (140, [true, true, false, true, false, false]), (143, [true, true, false, true, false, true]), (166, [true, true, false, true, false, false]), (174, [true, true, false, true, false, true]), (190, [true, true, false, true, false, true]), (222, [true, true, false, true, false, true]), (245, [true, true, false, true, false, true]), (251, [true, false, false, true, false, false])] q
set_option maxRecDepth 4096 in
theorem vc_197_245 (tt : Nat → Nat) (a0 : Nat) (a1 : Int32) (a3 : Int32) (a5 : Int32) (h : am_H) (Q : am_H → Prop) (Qx : String → am_H → Prop) (q :
  am_Ev tt 197 174 [some (.ref a0), some (.int a1), none, some (.int a3), none, some (.int (a5 + (Int32.ofNat 1)))] [] h (am_pV Q Qx)) :
  am_Ev tt 197 245 [some (.ref a0), some (.int a1), none, some (.int a3), none, some (.int a5)] [] h (am_pV Q Qx) := am_vc 5 [(2, [true, true, true, false, false, false]), (30, [true, true, false, false, false, false]), (74, [true, true, true, true, true, false]), (79, [true, true, true, true, false, false]), (115, [true, true, false, true, false, true]), (137, [true, true, false, true, false, false]), (140, [true, true, false, true, false, false]), (143, [true, true, false, true, false, true]), (166, [true, true, false, true, false, false]), (174, [true, true, false, true, false, true]), (190, [true, true, false, true, false, true]), (222, [true, true, false, true, false, true]), (245, [true, true, false, true, false, true]), (251, [true, false, false, true, false, false])] q
set_option maxRecDepth 4096 in
theorem vc_197_251 (tt : Nat → Nat) (a0 : Nat) (a3 : Int32) (h : am_H) (Q : am_H → Prop) (Qx : String → am_H → Prop) (q :
  (am_K h a0 = 11 ∧
  (am_K h a0 = 11 ∧ ∃ (Q2 : am_H → Prop) (X2 : String → am_H → Prop), am_Ct tt 192 [.ref a0, .long (((am_I h 10 27 a0) - a3)).toInt64] h (am_pV Q2 X2) ∧ (∀ h1, Q2 h1 →
   Q h1) ∧ (∀ E3 h1, X2 E3 h1 → Qx E3 h1)))) :
  am_Ev tt 197 251 [some (.ref a0), none, none, some (.int a3), none, none] [] h (am_pV Q Qx) := am_vc 10 [(2, [true, true, true, false, false, false]), (30, [true, true, false, false, false, false]), (74, [true, true, true, true, true, false]), (79, [true, true, true, true, false, false]), (115, [true, true, false, true, false, true]), (137, [true, true, false, true, false, false]), (140, [true, true, false, true, false, false]), (143, [true, true, false, true, false, true]), (166, [true, true, false, true, false, false]), (174, [true, true, false, true, false, true]), (190, [true, true, false, true, false, true]), (222, [true, true, false, true, false, true]), (245, [true, true, false, true, false, true]), (251, [true, false, false, true, false, false])] q

abbrev VO : Type := Nat → Option Int64
def kV3 (told : Int64) (q pl : Nat) (v : VO) (q3 : Nat) : Except pe (VO × Nat) := if told = Int64.ofNat (q3 - q) then .ok (v, q3) else .error (5, pl)
def kV2 (F : Fn) (n N w : Nat) (told : Int64) (q pl : Nat) (g : Nat → Bool) (q2 : Nat) : Except pe (VO × Nat) := bd (lVa F n w g N 0 q2 (fun _ => none)) fun v q3 => kV3 told q pl v q3
def kV1 (F : Fn) (n N w : Nat) (told : Int64) (q pl : Nat) (g : Nat → Bool) (q1 : Nat) : Except pe (VO × Nat) := bd (tX F n q1 0) fun _ q2 => kV2 F n N w told q pl g q2
def kVr (F : Fn) (n N w : Nat) (told : Int64) (q pl tp : Nat) (p1 : Nat) : Except pe (VO × Nat) := bd (tR F n p1 N) fun g p2 => if cn g N = 0 then .error (2, tp) else if cn g N = N then .error (2, q) else kV1 F n N w told q pl g p2
section MVA
variable {tt : Nat → Nat} {F : Fn} {n m : Nat} {ad : Nat → Nat} {h h' h'' k k' : am_H} {s : Ms} {X Y X' Y' : Nat → Prop} {t N w q pl tp : Nat} {told : Int64} {r : Except pe (VO × Nat)} {a1 a2 a3 a4 a5 : Int32}
abbrev Xva (t k : Nat) : Prop := k = 26 ∨ (t = 20 ∧ k = 48) ∨ (t = 21 ∧ k = 50)
def vR (t : Nat) (ad : Nat → Nat) (v : VO) (k : am_H) (e : Nat) : Prop := ∀ x, v e = some x → (t = 20 → am_B k (ad 48) e = x) ∧ (t = 21 → am_A k (ad 50) e = x.toInt32)
def vaQ (F : Fn) (n m : Nat) (ad : Nat → Nat) (h : am_H) (t N : Nat) (r : Except pe (VO × Nat)) (k : am_H) : Prop := MY F n k m ad (st r) ∧ mg m ad (Xva t) Ybg h k ∧ ∀ v p', r = .ok (v, p') → ∀ e, e < N → am_A k (ad 26) e = b01 (v e).isSome ∧ vR t ad v k e
/-- what is known of the length -/
def vF (m : Nat) (told : Int64) (q pl : Nat) (a3 : Int32) (k : am_H) : Prop := am_J k 10 62 m = told ∧ am_I k 10 61 m = Int32.ofNat pl ∧ a3 = Int32.ofNat q
theorem vF.mo (v : vF m told q pl a3 k) (g : mg m ad X Y k k') (h1 : ¬ Y 61) (h2 : ¬ Y 62) : vF m told q pl a3 k' := ⟨by rw [(g.2.2 62 h2).2]; exact v.1, by rw [(g.2.2 61 h1).1]; exact v.2.1, v.2.2⟩
theorem va_251 {v : VO} (y : MY F n k m ad s) (g : mg m ad (Xva t) Ybg h k) (hr : r = bs s (kV3 told q pl v)) (hv : ∀ p3, s = .ok p3 → vF m told q pl a3 k ∧ q ≤ p3 ∧ ∀ e, e < N → am_A k (ad 26) e = b01 (v e).isSome ∧ vR t ad v k e) : am_Ev tt 197 251 [some (.ref m), none, none, some (.int a3), none, none] [] k (am_pV (vaQ F n m ad h t N r) no_x) := by
  have kk := y.1.1
  cases s with
  | error e =>
    refine vc_197_251 tt _ _ _ _ _ ⟨kk, kk, _, _, ct_risLong (v := 0) (pl := 0) y (fun z => by cases z), fun k2 w => ?_, fun _ _ z => z.elim⟩
    have hr : r = .error e := hr
    rw [hr]
    exact ⟨w.1, g.tr (w.2.mo (fun _ z => z.elim) (fun _ z => by omega)), fun us p' z => by cases z⟩
  | ok p3 =>
    obtain ⟨⟨e62, e61, rfl⟩, p13, hn⟩ := hv p3 rfl
    have e27 := y.2.2.2.2.1.2
    have n5 := y.2.2.1
    have pn := y.2.2.2.2.2 p3 rfl
    have hr : r = if told = Int64.ofNat (p3 - q) then .ok (v, p3) else .error (5, pl) := hr
    refine vc_197_251 tt _ _ _ _ _ ⟨kk, kk, ?_⟩
    rw [e27, qi_sub p13, qi_l (by omega)]
    refine ⟨_, _, ct_risLong y (v := told) (pl := pl) (fun _ => ⟨e62, e61⟩), fun k2 w => ?_, fun _ _ z => z.elim⟩
    have gg := g.tr (w.2.mo (fun _ z => z.elim) (fun _ z => by omega))
    have y2 : MY F n k2 m ad (if told = Int64.ofNat (p3 - q) then .ok p3 else .error (5, pl)) := w.1
    by_cases c : told = Int64.ofNat (p3 - q)
    · rw [if_pos c] at hr y2
      rw [hr]
      refine ⟨y2, gg, fun v' p' z e he => ?_⟩
      cases z
      obtain ⟨q1, q2⟩ := hn e he
      exact ⟨by rw [(w.2.2.1 26 (fun z => z)).1]; exact q1, fun x hx => ⟨fun z => by rw [(w.2.2.1 48 (fun z => z)).2]; exact (q2 x hx).1 z, fun z => by rw [(w.2.2.1 50 (fun z => z)).1]; exact (q2 x hx).2 z⟩⟩
    · rw [if_neg c] at hr y2
      rw [hr]
      exact ⟨y2, gg, fun us p' z => by cases z⟩
theorem va_174b {e : pe} (y : MY F n k m ad (.error e)) (g : mg m ad (Xva t) Ybg h k) (er : r = .error e) : am_Ev tt 197 174 [some (.ref m), some (.int a1), none, some (.int a3), none, some (.int a5)] [] k (am_pV (vaQ F n m ad h t N r) no_x) := by
  have nx : am_Ev tt 197 251 [some (.ref m), none, none, some (.int a3), none, none] [] k (am_pV (vaQ F n m ad h t N r) no_x) := va_251 (v := fun _ => none) (told := 0) (q := 0) (pl := 0) y g er (fun p3 z => by cases z)
  refine vc_197_174 tt _ _ _ _ _ _ _ ⟨y.1.1, fun _ => nx, fun _ => ⟨y.1.1, _, _, ct_mfine y, fun z k2 e2 => ?_, fun _ _ z => z.elim⟩⟩
  obtain ⟨rfl, rfl⟩ := e2
  exact ⟨fun _ => nx, fun z => absurd rfl z⟩
theorem va_174 (hN : N ≤ 24) (ht : (t = 20 ∧ w = 8) ∨ (t = 21 ∧ w = 4)) {gb : Nat → Bool} : ∀ (d i : Nat) (k : am_H) (q2 : Nat) (v : VO), d + i = N → q ≤ q2 → MY F n k m ad (.ok q2) → mg m ad (Xva t) Ybg h k → am_I k 10 41 m = Int32.ofNat N → vF m told q pl a3 k → (∀ e, e < N → am_A k (ad 26) e = b01 (gb e)) → (∀ e, e < i → (v e).isSome = gb e ∧ vR t ad v k e) → (∀ e, i ≤ e → v e = none) → r = bd (lVa F n w gb d i q2 v) (fun v q3 => kV3 told q pl v q3) → am_Ev tt 197 174 [some (.ref m), some (.int (Int32.ofNat t)), none, some (.int a3), none, some (.int (Int32.ofNat i))] [] k (am_pV (vaQ F n m ad h t N r) no_x) := by
  intro d
  induction d with
  | zero =>
    intro i k q2 v ei hq y g e41 hf e26 hv hn hr
    have : i = N := by omega
    subst this
    have kk := y.1.1
    refine vc_197_174 tt _ _ _ _ _ _ _ ?_
    simp (disch := omega) only [kk, e41, qi_lt, qi_le, qi_eq, qi_nn, qi_in, qi_add, qi_l, ql_i, ql_lt, ql_le, ql_eq, ql_add, qc_lt, qc_eq, qc_ge, qc_gt, qc_le, true_and, and_true, and_self, true_or, or_true, false_or, or_false, false_and, and_false, not_true_eq_false, not_false_eq_true, Classical.not_not, true_implies, false_implies, implies_true, exists_eq_left, exists_eq_left', Option.some.injEq, reduceIte, Nat.reduceEqDiff, Nat.reduceLT, Nat.reduceLeDiff, Nat.reduceAdd, Nat.reduceSub, Nat.reduceMul, eq_self, ne_eq, and_imp, forall_const, reduceCtorEq, am_w, List.map_cons, List.map_nil, List.sum_cons, List.sum_nil, Value.category, Nat.zero_le, Nat.le_refl]
    exact va_251 (s := .ok q2) (v := v) y g hr (fun p3 z => by cases z; exact ⟨hf, hq, fun e he => ⟨by rw [e26 e he, (hv e he).1], (hv e he).2⟩⟩)
  | succ d ih =>
    intro i k q2 v ei hq y g e41 hf e26 hv hn hr
    have kk := y.1.1
    have q1 : ¬ N ≤ i := by omega
    have i24 : i < 24 := by omega
    have e26i := e26 i (by omega)
    obtain ⟨b1, b2, b3⟩ := md_r y.1 (k := 26) (by decide) rfl (by decide)
    obtain ⟨c1, c2, c3⟩ := md_r y.1 (k := 48) (by decide) rfl (by decide)
    obtain ⟨d1, d2, d3⟩ := md_r y.1 (k := 50) (by decide) rfl (by decide)
    have t256 : t < 256 := by omega
    refine vc_197_174 tt _ _ _ _ _ _ _ ?_
    simp (disch := omega) only [kk, e41, q1, qi_lt, qi_le, qi_eq, qi_nn, qi_in, qi_add, qi_l, ql_i, ql_lt, ql_le, ql_eq, ql_add, qc_lt, qc_eq, qc_ge, qc_gt, qc_le, true_and, and_true, and_self, true_or, or_true, false_or, or_false, false_and, and_false, not_true_eq_false, not_false_eq_true, Classical.not_not, true_implies, false_implies, implies_true, exists_eq_left, exists_eq_left', Option.some.injEq, reduceIte, Nat.reduceEqDiff, Nat.reduceLT, Nat.reduceLeDiff, Nat.reduceAdd, Nat.reduceSub, Nat.reduceMul, eq_self, ne_eq, and_imp, forall_const, reduceCtorEq, am_w, List.map_cons, List.map_nil, List.sum_cons, List.sum_nil, Value.category, Nat.zero_le, Nat.le_refl]
    refine ⟨_, _, ct_mfine y, fun z k2 e2 => ?_, fun _ _ z => z.elim⟩
    obtain ⟨rfl, rfl⟩ := e2
    refine ⟨fun z => absurd z (show ¬ Int32.ofNat 1 = Int32.ofNat 0 by decide), fun _ => ?_⟩
    rw [lVa] at hr
    refine vc_197_190 tt _ _ _ _ _ _ _ ?_
    simp (disch := omega) only [kk, b1, b2, b3, i24, e26i, qi_lt, qi_le, qi_eq, qi_nn, qi_in, qi_add, qi_l, ql_i, ql_lt, ql_le, ql_eq, ql_add, qc_lt, qc_eq, qc_ge, qc_gt, qc_le, true_and, and_true, and_self, true_or, or_true, false_or, or_false, false_and, and_false, not_true_eq_false, not_false_eq_true, Classical.not_not, true_implies, false_implies, implies_true, exists_eq_left, exists_eq_left', Option.some.injEq, reduceIte, Nat.reduceEqDiff, Nat.reduceLT, Nat.reduceLeDiff, Nat.reduceAdd, Nat.reduceSub, Nat.reduceMul, eq_self, ne_eq, and_imp, forall_const, reduceCtorEq, am_w, List.map_cons, List.map_nil, List.sum_cons, List.sum_nil, Value.category, Nat.zero_le, Nat.le_refl]
    -- a value
    have put : ∀ (x : Int64) (k3 k4 : am_H), gb i = true → MY F n k3 m ad (st (tL F n q2 w)) → mg m ad Xn Yq k2 k3 → (∀ a p', tL F n q2 w = .ok (a, p') → x = a) → mg m ad (fun r => (t = 20 ∧ r = 48) ∨ (t = 21 ∧ r = 50)) Yz k3 k4 → (t = 20 → am_B k4 (ad 48) i = x) → (t = 21 → am_A k4 (ad 50) i = x.toInt32) → (∀ j, ¬ j = i → am_B k4 (ad 48) j = am_B k3 (ad 48) j ∧ am_A k4 (ad 50) j = am_A k3 (ad 50) j) → am_Ev tt 197 245 [some (.ref m), some (.int (Int32.ofNat t)), none, some (.int a3), none, some (.int (Int32.ofNat i))] [] k4 (am_pV (vaQ F n m ad h t N r) no_x) := by
      intro x k3 k4 hg y3 g3 v3 g4 h48 h50 ho
      rw [if_pos hg] at hr
      have y4 := y3.on g4 (by omega) id id id id
      have gg : mg m ad (Xva t) Ybg h k4 := g.tr ((g3.mo (fun _ z => z.elim) (fun _ z => by omega)).tr (g4.mo (fun _ z => by omega) (fun _ z => z.elim)))
      refine vc_197_245 tt _ _ _ _ _ _ _ ?_
      simp (disch := omega) only [qi_lt, qi_le, qi_eq, qi_nn, qi_in, qi_add, qi_l, ql_i, ql_lt, ql_le, ql_eq, ql_add, qc_lt, qc_eq, qc_ge, qc_gt, qc_le]
      cases e1 : tL F n q2 w with
      | error e =>
        rw [e1] at y4 hr
        exact va_174b y4 gg hr
      | ok a =>
        obtain ⟨a, q'⟩ := a
        have ev := v3 _ _ e1
        subst ev
        have e1' := e1
        rw [tL] at e1'
        split at e1'
        case isFalse => cases e1'
        case isTrue hq2 =>
        cases e1'
        rw [e1] at y4 hr
        have e26' : ∀ e, e < N → am_A k4 (ad 26) e = b01 (gb e) := fun e he => by rw [(g4.2.1 26 (by omega)).1, (g3.2.1 26 (fun z => z)).1]; exact e26 e he
        refine ih (i + 1) k4 (q2 + w) _ (by omega) (by omega) y4 gg (by rw [(g4.2.2 41 id).1, (g3.2.2 41 (by omega)).1]; exact e41) ((hf.mo g3 (by omega) (by omega)).mo g4 id id) e26' (fun e he => ?_) (fun e he => ?_) hr
        · unfold va_up
          by_cases ce : e = i
          · subst ce
            refine ⟨by rw [if_pos rfl, hg]; rfl, fun x' hx' => ?_⟩
            simp only [true_and, and_true, and_self, true_or, or_true, false_or, or_false, false_and, and_false, not_true_eq_false, not_false_eq_true, Classical.not_not, true_implies, false_implies, implies_true, exists_eq_left, exists_eq_left', Option.some.injEq, reduceIte, Nat.reduceEqDiff, Nat.reduceLT, Nat.reduceLeDiff, Nat.reduceAdd, Nat.reduceSub, Nat.reduceMul, eq_self, ne_eq, and_imp, forall_const, reduceCtorEq, am_w, List.map_cons, List.map_nil, List.sum_cons, List.sum_nil, Value.category, Nat.zero_le, Nat.le_refl] at hx'
            subst hx'
            exact ⟨h48, h50⟩
          · obtain ⟨w1, w2⟩ := hv e (by omega)
            refine ⟨by rw [if_neg ce]; exact w1, fun x' hx' => ?_⟩
            simp only [ce, true_and, and_true, and_self, true_or, or_true, false_or, or_false, false_and, and_false, not_true_eq_false, not_false_eq_true, Classical.not_not, true_implies, false_implies, implies_true, exists_eq_left, exists_eq_left', Option.some.injEq, reduceIte, Nat.reduceEqDiff, Nat.reduceLT, Nat.reduceLeDiff, Nat.reduceAdd, Nat.reduceSub, Nat.reduceMul, eq_self, ne_eq, and_imp, forall_const, reduceCtorEq, am_w, List.map_cons, List.map_nil, List.sum_cons, List.sum_nil, Value.category, Nat.zero_le, Nat.le_refl] at hx'
            obtain ⟨o1, o2⟩ := ho e ce
            exact ⟨fun z => by rw [o1, (g3.2.1 48 (fun z => z)).2]; exact (w2 x' hx').1 z, fun z => by rw [o2, (g3.2.1 50 (fun z => z)).1]; exact (w2 x' hx').2 z⟩
        · unfold va_up
          rw [if_neg (by omega)]
          exact hn e (by omega)
    cases hg : gb i with
    | false =>
      rw [hg] at hr e26i
      have hr : r = bd (lVa F n w gb d (i + 1) q2 v) (fun v q3 => kV3 told q pl v q3) := hr
      refine ⟨fun _ => ?_, fun z => absurd rfl z⟩
      refine vc_197_222 tt _ _ _ _ _ _ _ ?_
      simp (disch := omega) only [kk, b1, b2, b3, i24, e26i, qi_lt, qi_le, qi_eq, qi_nn, qi_in, qi_add, qi_l, ql_i, ql_lt, ql_le, ql_eq, ql_add, qc_lt, qc_eq, qc_ge, qc_gt, qc_le, true_and, and_true, and_self, true_or, or_true, false_or, or_false, false_and, and_false, not_true_eq_false, not_false_eq_true, Classical.not_not, true_implies, false_implies, implies_true, exists_eq_left, exists_eq_left', Option.some.injEq, reduceIte, Nat.reduceEqDiff, Nat.reduceLT, Nat.reduceLeDiff, Nat.reduceAdd, Nat.reduceSub, Nat.reduceMul, eq_self, ne_eq, and_imp, forall_const, reduceCtorEq, am_w, List.map_cons, List.map_nil, List.sum_cons, List.sum_nil, Value.category, Nat.zero_le, Nat.le_refl]
      refine ⟨fun _ => ?_, fun z => absurd rfl z⟩
      refine vc_197_245 tt _ _ _ _ _ _ _ ?_
      simp (disch := omega) only [qi_lt, qi_le, qi_eq, qi_nn, qi_in, qi_add, qi_l, ql_i, ql_lt, ql_le, ql_eq, ql_add, qc_lt, qc_eq, qc_ge, qc_gt, qc_le]
      refine ih (i + 1) k2 q2 v (by omega) hq y g e41 hf e26 (fun e he => ?_) (fun e he => hn e (by omega)) hr
      by_cases ce : e = i
      · subst ce
        have := hn e (Nat.le_refl e)
        exact ⟨by rw [this, hg]; rfl, fun x hx => by rw [this] at hx; cases hx⟩
      · exact hv e (by omega)
    | true =>
      rw [hg] at e26i
      refine ⟨fun z => absurd z (show ¬ Int32.ofNat 1 = Int32.ofNat 0 by decide), fun _ => ?_⟩
      rcases ht with ⟨rfl, rfl⟩ | ⟨rfl, rfl⟩
      · refine ⟨fun z => absurd rfl z, fun _ => ⟨_, c1, _, _, ct_mtakeLittle y (by omega) rfl, fun x k3 e3 => ?_, fun _ _ z => z.elim⟩⟩
        obtain ⟨y3, g3, v3⟩ := e3
        obtain ⟨f1, f2, f3⟩ := md_r y3.1 (k := 48) (by decide) rfl (by decide)
        simp (disch := omega) only [f2, f3, i24, qi_lt, qi_le, qi_eq, qi_nn, qi_in, qi_add, qi_l, ql_i, ql_lt, ql_le, ql_eq, ql_add, qc_lt, qc_eq, qc_ge, qc_gt, qc_le, true_and, and_true, and_self, true_or, or_true, false_or, or_false, false_and, and_false, not_true_eq_false, not_false_eq_true, Classical.not_not, true_implies, false_implies, implies_true, exists_eq_left, exists_eq_left', Option.some.injEq, reduceIte, Nat.reduceEqDiff, Nat.reduceLT, Nat.reduceLeDiff, Nat.reduceAdd, Nat.reduceSub, Nat.reduceMul, eq_self, ne_eq, and_imp, forall_const, reduceCtorEq, am_w, List.map_cons, List.map_nil, List.sum_cons, List.sum_nil, Value.category, Nat.zero_le, Nat.le_refl]
        have dj := ad_ne y3.1
        refine put x k3 _ hg y3 g3 v3 (mg.sB y3.1 (Or.inl ⟨rfl, rfl⟩)) (fun _ => by simp only [am_hs, true_and, and_true, and_self, true_or, or_true, false_or, or_false, false_and, and_false, not_true_eq_false, not_false_eq_true, Classical.not_not, true_implies, false_implies, implies_true, exists_eq_left, exists_eq_left', Option.some.injEq, reduceIte, Nat.reduceEqDiff, Nat.reduceLT, Nat.reduceLeDiff, Nat.reduceAdd, Nat.reduceSub, Nat.reduceMul, eq_self, ne_eq, and_imp, forall_const, reduceCtorEq, am_w, List.map_cons, List.map_nil, List.sum_cons, List.sum_nil, Value.category, Nat.zero_le, Nat.le_refl]) (fun z => absurd z (by omega)) (fun j hj => ⟨by simp (disch := omega) only [am_hs, hj, true_and, and_true, and_self, true_or, or_true, false_or, or_false, false_and, and_false, not_true_eq_false, not_false_eq_true, Classical.not_not, true_implies, false_implies, implies_true, exists_eq_left, exists_eq_left', Option.some.injEq, reduceIte, Nat.reduceEqDiff, Nat.reduceLT, Nat.reduceLeDiff, Nat.reduceAdd, Nat.reduceSub, Nat.reduceMul, eq_self, ne_eq, and_imp, forall_const, reduceCtorEq, am_w, List.map_cons, List.map_nil, List.sum_cons, List.sum_nil, Value.category, Nat.zero_le, Nat.le_refl], rfl⟩)
      · refine ⟨fun _ => ?_, fun z => absurd z (by omega)⟩
        refine vc_197_222 tt _ _ _ _ _ _ _ ?_
        simp (disch := omega) only [kk, b1, b2, b3, i24, e26i, qi_lt, qi_le, qi_eq, qi_nn, qi_in, qi_add, qi_l, ql_i, ql_lt, ql_le, ql_eq, ql_add, qc_lt, qc_eq, qc_ge, qc_gt, qc_le, true_and, and_true, and_self, true_or, or_true, false_or, or_false, false_and, and_false, not_true_eq_false, not_false_eq_true, Classical.not_not, true_implies, false_implies, implies_true, exists_eq_left, exists_eq_left', Option.some.injEq, reduceIte, Nat.reduceEqDiff, Nat.reduceLT, Nat.reduceLeDiff, Nat.reduceAdd, Nat.reduceSub, Nat.reduceMul, eq_self, ne_eq, and_imp, forall_const, reduceCtorEq, am_w, List.map_cons, List.map_nil, List.sum_cons, List.sum_nil, Value.category, Nat.zero_le, Nat.le_refl]
        refine ⟨fun z => absurd z (show ¬ Int32.ofNat 1 = Int32.ofNat 0 by decide), fun _ => ⟨_, d1, _, _, ct_mtakeLittle y (by omega) rfl, fun x k3 e3 => ?_, fun _ _ z => z.elim⟩⟩
        obtain ⟨y3, g3, v3⟩ := e3
        obtain ⟨f1, f2, f3⟩ := md_r y3.1 (k := 50) (by decide) rfl (by decide)
        simp (disch := omega) only [f2, f3, i24, qi_lt, qi_le, qi_eq, qi_nn, qi_in, qi_add, qi_l, ql_i, ql_lt, ql_le, ql_eq, ql_add, qc_lt, qc_eq, qc_ge, qc_gt, qc_le, true_and, and_true, and_self, true_or, or_true, false_or, or_false, false_and, and_false, not_true_eq_false, not_false_eq_true, Classical.not_not, true_implies, false_implies, implies_true, exists_eq_left, exists_eq_left', Option.some.injEq, reduceIte, Nat.reduceEqDiff, Nat.reduceLT, Nat.reduceLeDiff, Nat.reduceAdd, Nat.reduceSub, Nat.reduceMul, eq_self, ne_eq, and_imp, forall_const, reduceCtorEq, am_w, List.map_cons, List.map_nil, List.sum_cons, List.sum_nil, Value.category, Nat.zero_le, Nat.le_refl]
        have dj := ad_ne y3.1
        refine put x k3 _ hg y3 g3 v3 (mg.sA y3.1 (Or.inr ⟨rfl, rfl⟩)) (fun z => absurd z (by omega)) (fun _ => by simp only [am_hs, true_and, and_true, and_self, true_or, or_true, false_or, or_false, false_and, and_false, not_true_eq_false, not_false_eq_true, Classical.not_not, true_implies, false_implies, implies_true, exists_eq_left, exists_eq_left', Option.some.injEq, reduceIte, Nat.reduceEqDiff, Nat.reduceLT, Nat.reduceLeDiff, Nat.reduceAdd, Nat.reduceSub, Nat.reduceMul, eq_self, ne_eq, and_imp, forall_const, reduceCtorEq, am_w, List.map_cons, List.map_nil, List.sum_cons, List.sum_nil, Value.category, Nat.zero_le, Nat.le_refl]) (fun j hj => ⟨rfl, by simp (disch := omega) only [am_hs, hj, true_and, and_true, and_self, true_or, or_true, false_or, or_false, false_and, and_false, not_true_eq_false, not_false_eq_true, Classical.not_not, true_implies, false_implies, implies_true, exists_eq_left, exists_eq_left', Option.some.injEq, reduceIte, Nat.reduceEqDiff, Nat.reduceLT, Nat.reduceLeDiff, Nat.reduceAdd, Nat.reduceSub, Nat.reduceMul, eq_self, ne_eq, and_imp, forall_const, reduceCtorEq, am_w, List.map_cons, List.map_nil, List.sum_cons, List.sum_nil, Value.category, Nat.zero_le, Nat.le_refl]⟩)
theorem va_166 (hN : N ≤ 24) (ht : (t = 20 ∧ w = 8) ∨ (t = 21 ∧ w = 4)) {gb : Nat → Bool} (y : MY F n k m ad s) (g : mg m ad (Xva t) Ybg h k) (e41 : am_I k 10 41 m = Int32.ofNat N) (hr : r = bs s (kV1 F n N w told q pl gb)) (hv : ∀ p, s = .ok p → q ≤ p ∧ vF m told q pl a3 k ∧ ∀ e, e < N → am_A k (ad 26) e = b01 (gb e)) : am_Ev tt 197 166 [some (.ref m), some (.int (Int32.ofNat t)), none, some (.int a3), none, none] [] k (am_pV (vaQ F n m ad h t N r) no_x) := by
  refine vc_197_166 tt _ _ _ _ _ _ ⟨y.1.1, _, _, ct_mneed y rfl, fun k1 w1 => ?_, fun _ _ z => z.elim⟩
  obtain ⟨y1, g1⟩ := w1
  have gg := g.tr (g1.mo (X' := Xva t) (Y' := Ybg) (fun _ z => z.elim) (fun _ z => by omega))
  cases s with
  | error e => exact va_174b y1 gg hr
  | ok p =>
    obtain ⟨qp, hf, e26⟩ := hv p rfl
    have hr : r = bd (tX F n p 0) fun _ q2 => kV2 F n N w told q pl gb q2 := hr
    have y1 : MY F n k1 m ad (st (tX F n p 0)) := y1
    cases e1 : tX F n p 0 with
    | error e =>
      rw [e1] at y1 hr
      exact va_174b y1 gg hr
    | ok a =>
      obtain ⟨u, q2⟩ := a
      have p12 : p ≤ q2 := by
        rw [tX] at e1
        split at e1
        · split at e1
          · cases e1; omega
          · cases e1
        · cases e1
      rw [e1] at y1 hr
      exact va_174 hN ht N 0 k1 q2 (fun _ => none) (by omega) (by omega) y1 gg (by rw [(g1.2.2 41 (by omega)).1]; exact e41) (hf.mo g1 (by omega) (by omega)) (fun e he => by rw [(g1.2.1 26 (fun z => z)).1]; exact e26 e he) (fun e he => absurd he (by omega)) (fun e he => rfl) hr
/-- all of them -/
theorem va_140 (hN : N ≤ 24) (ht : (t = 20 ∧ w = 8) ∨ (t = 21 ∧ w = 4)) (y : MY F n k m ad s) (g : mg m ad (Xva t) Ybg h k) (e41 : am_I k 10 41 m = Int32.ofNat N) (hr : r = bs s (kV1 F n N w told q pl (fun _ => true))) (hv : ∀ p, s = .ok p → q ≤ p ∧ vF m told q pl a3 k) : am_Ev tt 197 140 [some (.ref m), some (.int (Int32.ofNat t)), none, some (.int a3), none, none] [] k (am_pV (vaQ F n m ad h t N r) no_x) := by
  have key : ∀ (d i : Nat) (k : am_H), d + i = N → MY F n k m ad s → mg m ad (Xva t) Ybg h k → am_I k 10 41 m = Int32.ofNat N → (∀ p, s = .ok p → q ≤ p ∧ vF m told q pl a3 k) → (∀ e, e < i → am_A k (ad 26) e = Int32.ofNat 1) → am_Ev tt 197 143 [some (.ref m), some (.int (Int32.ofNat t)), none, some (.int a3), none, some (.int (Int32.ofNat i))] [] k (am_pV (vaQ F n m ad h t N r) no_x) := by
    intro d
    induction d with
    | zero =>
      intro i k ei y g e41 hv e26
      have : i = N := by omega
      subst this
      have kk := y.1.1
      refine vc_197_143 tt _ _ _ _ _ _ _ ?_
      simp (disch := omega) only [kk, e41, qi_lt, qi_le, qi_eq, qi_nn, qi_in, qi_add, qi_l, ql_i, ql_lt, ql_le, ql_eq, ql_add, qc_lt, qc_eq, qc_ge, qc_gt, qc_le, true_and, and_true, and_self, true_or, or_true, false_or, or_false, false_and, and_false, not_true_eq_false, not_false_eq_true, Classical.not_not, true_implies, false_implies, implies_true, exists_eq_left, exists_eq_left', Option.some.injEq, reduceIte, Nat.reduceEqDiff, Nat.reduceLT, Nat.reduceLeDiff, Nat.reduceAdd, Nat.reduceSub, Nat.reduceMul, eq_self, ne_eq, and_imp, forall_const, reduceCtorEq, am_w, List.map_cons, List.map_nil, List.sum_cons, List.sum_nil, Value.category, Nat.zero_le, Nat.le_refl]
      exact va_166 hN ht y g e41 hr (fun p z => ⟨(hv p z).1, (hv p z).2, e26⟩)
    | succ d ih =>
      intro i k ei y g e41 hv e26
      have kk := y.1.1
      have q1 : ¬ N ≤ i := by omega
      have i24 : i < 24 := by omega
      obtain ⟨b1, b2, b3⟩ := md_r y.1 (k := 26) (by decide) rfl (by decide)
      refine vc_197_143 tt _ _ _ _ _ _ _ ?_
      simp (disch := omega) only [kk, e41, q1, b1, b2, b3, i24, o_1, qi_lt, qi_le, qi_eq, qi_nn, qi_in, qi_add, qi_l, ql_i, ql_lt, ql_le, ql_eq, ql_add, qc_lt, qc_eq, qc_ge, qc_gt, qc_le, true_and, and_true, and_self, true_or, or_true, false_or, or_false, false_and, and_false, not_true_eq_false, not_false_eq_true, Classical.not_not, true_implies, false_implies, implies_true, exists_eq_left, exists_eq_left', Option.some.injEq, reduceIte, Nat.reduceEqDiff, Nat.reduceLT, Nat.reduceLeDiff, Nat.reduceAdd, Nat.reduceSub, Nat.reduceMul, eq_self, ne_eq, and_imp, forall_const, reduceCtorEq, am_w, List.map_cons, List.map_nil, List.sum_cons, List.sum_nil, Value.category, Nat.zero_le, Nat.le_refl]
      have s1 : mg m ad (Xva t) Yz k (am_sA k (ad 26) i (Int32.ofNat 1)) := mg.sA y.1 (Or.inl rfl)
      refine ih (i + 1) _ (by omega) (y.on s1 (by omega) id id id id) (g.tr (s1.mo (fun _ z => z) (fun _ z => z.elim))) (by simp only [am_hs]; exact e41) (fun p z => ⟨(hv p z).1, (hv p z).2.mo s1 id id⟩) (fun e he => ?_)
      by_cases ce : e = i
      · subst ce
        simp only [am_hs, true_and, and_true, and_self, true_or, or_true, false_or, or_false, false_and, and_false, not_true_eq_false, not_false_eq_true, Classical.not_not, true_implies, false_implies, implies_true, exists_eq_left, exists_eq_left', Option.some.injEq, reduceIte, Nat.reduceEqDiff, Nat.reduceLT, Nat.reduceLeDiff, Nat.reduceAdd, Nat.reduceSub, Nat.reduceMul, eq_self, ne_eq, and_imp, forall_const, reduceCtorEq, am_w, List.map_cons, List.map_nil, List.sum_cons, List.sum_nil, Value.category, Nat.zero_le, Nat.le_refl]
      · simp (disch := omega) only [am_hs, ce, true_and, and_true, and_self, true_or, or_true, false_or, or_false, false_and, and_false, not_true_eq_false, not_false_eq_true, Classical.not_not, true_implies, false_implies, implies_true, exists_eq_left, exists_eq_left', Option.some.injEq, reduceIte, Nat.reduceEqDiff, Nat.reduceLT, Nat.reduceLeDiff, Nat.reduceAdd, Nat.reduceSub, Nat.reduceMul, eq_self, ne_eq, and_imp, forall_const, reduceCtorEq, am_w, List.map_cons, List.map_nil, List.sum_cons, List.sum_nil, Value.category, Nat.zero_le, Nat.le_refl]
        exact e26 e (by omega)
  exact vc_197_140 tt _ _ _ _ _ _ (key N 0 k (by omega) y g e41 hv (fun e he => absurd he (by omega)))
/-- some of them -/
theorem va_79 (hN : N ≤ 24) (ht : (t = 20 ∧ w = 8) ∨ (t = 21 ∧ w = 4)) (y : MY F n k m ad s) (g : mg m ad (Xva t) Ybg h k) (e41 : am_I k 10 41 m = Int32.ofNat N) (hr : r = bs s (kVr F n N w told q pl tp)) (hv : ∀ p, s = .ok p → q ≤ p ∧ vF m told q pl a3 k ∧ a2 = Int32.ofNat tp) : am_Ev tt 197 79 [some (.ref m), some (.int (Int32.ofNat t)), some (.int a2), some (.int a3), none, none] [] k (am_pV (vaQ F n m ad h t N r) no_x) := by
  have kk := y.1.1
  refine vc_197_79 tt _ _ _ _ _ _ _ ⟨kk, kk, ?_⟩
  rw [e41]
  refine ⟨_, _, ct_rrow y hN rfl, fun k1 w1 => ?_, fun _ _ z => z.elim⟩
  obtain ⟨y1, g1, v1⟩ := w1
  have kk1 := y1.1.1
  have e41' : am_I k1 10 41 m = Int32.ofNat N := by rw [(g1.2.2 41 (by omega)).1]; exact e41
  have gg := g.tr (g1.mo (X' := Xva t) (Y' := Ybg) (fun _ z => Or.inl z) (fun _ z => by omega))
  refine ⟨kk1, kk1, ?_⟩
  rw [e41']
  refine ⟨_, _, ct_mbitsSet y1.1 hN, fun x k2 e2 => ⟨?_, ?_⟩, fun _ _ z => z.elim⟩
  · obtain ⟨_, rfl⟩ := e2; exact kk1
  obtain ⟨rfl, rfl⟩ := e2
  refine ⟨_, _, ct_mfine y1, fun z k3 e3 => ?_, fun _ _ z => z.elim⟩
  obtain ⟨rfl, rfl⟩ := e3
  -- on with a fault
  have bad : ∀ (e : pe) (k : am_H) (a5 : Int32), MY F n k m ad (.error e) → mg m ad (Xva t) Ybg h k → am_I k 10 41 m = Int32.ofNat N → r = .error e → am_Ev tt 197 115 [some (.ref m), some (.int (Int32.ofNat t)), none, some (.int a3), none, some (.int a5)] [] k (am_pV (vaQ F n m ad h t N r) no_x) := by
    intro e k a5 y g e41 er
    refine vc_197_115 tt _ _ _ _ _ _ _ ⟨y.1.1, _, _, ct_mfine y, fun z k2 e2 => ?_, fun _ _ z => z.elim⟩
    obtain ⟨rfl, rfl⟩ := e2
    refine ⟨fun _ => vc_197_137 tt _ _ _ _ _ _ ?_, fun z => absurd rfl z⟩
    exact va_166 (w := w) (told := 0) (q := 0) (pl := 0) (gb := fun _ => true) hN ht y g e41 er (fun p z => by cases z)
  cases s with
  | error e => exact ⟨fun _ => bad e k3 _ y1 gg e41' hr, fun z => absurd rfl z⟩
  | ok p =>
    obtain ⟨qp, hf, rfl⟩ := hv p rfl
    have hr : r = bd (tR F n p N) fun g p2 => if cn g N = 0 then .error (2, tp) else if cn g N = N then .error (2, q) else kV1 F n N w told q pl g p2 := hr
    have y1 : MY F n k3 m ad (st (tR F n p N)) := y1
    have v1 : ∀ g p', tR F n p N = .ok (g, p') → ∀ j, j < N → am_A k3 (ad 26) j = b01 (g j) := v1
    show (b01 (isOk (st (tR F n p N))) = _ → _) ∧ (¬ b01 (isOk (st (tR F n p N))) = _ → _)
    cases e1 : tR F n p N with
    | error e =>
      rw [e1] at y1 hr
      exact ⟨fun _ => bad e k3 _ y1 gg e41' hr, fun z => absurd rfl z⟩
    | ok a =>
      obtain ⟨gb, p2⟩ := a
      have vv := v1 _ _ e1
      have pp2 : p ≤ p2 := by
        rw [tR] at e1
        split at e1
        · split at e1
          · cases e1
          · cases e1; omega
        · cases e1
      rw [e1] at y1 hr
      have y1 : MY F n k3 m ad (.ok p2) := y1
      have hr : r = if cn gb N = 0 then .error (2, tp) else if cn gb N = N then .error (2, q) else kV1 F n N w told q pl gb p2 := hr
      have c24 := cn_le gb N
      refine ⟨fun z => absurd z (show ¬ Int32.ofNat 1 = Int32.ofNat 0 by decide), fun _ => ?_⟩
      rw [cn_b vv, qi_eq (by omega) (by omega)]
      refine ⟨fun c => ?_, fun c => ?_⟩
      · rw [if_neg c] at hr
        refine vc_197_115 tt _ _ _ _ _ _ _ ⟨kk1, _, _, ct_mfine y1, fun z k4 e4 => ?_, fun _ _ z => z.elim⟩
        obtain ⟨rfl, rfl⟩ := e4
        refine ⟨fun z => absurd z (show ¬ Int32.ofNat 1 = Int32.ofNat 0 by decide), fun _ => ⟨kk1, ?_⟩⟩
        rw [e41', qi_eq (by omega) (by omega)]
        refine ⟨fun c2 => ?_, fun c2 => ?_⟩
        · rw [if_neg c2] at hr
          exact vc_197_137 tt _ _ _ _ _ _ (va_166 (s := .ok p2) hN ht y1 gg e41' hr (fun p' z => by cases z; exact ⟨by omega, hf.mo g1 (by omega) (by omega), vv⟩))
        · have c2 := Classical.not_not.1 c2
          rw [if_pos c2] at hr
          rw [hf.2.2]
          refine ⟨kk1, _, _, ct_mfails y1 (f := 2) (pl := q) (by omega) (by omega), fun k5 w5 => vc_197_137 tt _ _ _ _ _ _ ?_, fun _ _ z => z.elim⟩
          exact va_166 (s := .error (2, q)) (w := w) (told := 0) (q := 0) (pl := 0) (gb := fun _ => true) hN ht w5.1 (gg.tr (w5.2.mo (fun _ z => z.elim) (fun _ z => by omega))) (by rw [(w5.2.2.2 41 (by omega)).1]; exact e41') hr (fun p z => by cases z)
      · have c := Classical.not_not.1 c
        rw [if_pos c] at hr
        refine ⟨kk1, _, _, ct_mfails y1 (f := 2) (pl := tp) (by omega) (by omega), fun k5 w5 => ?_, fun _ _ z => z.elim⟩
        exact bad (2, tp) k5 _ w5.1 (gg.tr (w5.2.mo (fun _ z => z.elim) (fun _ z => by omega))) (by rw [(w5.2.2.2 41 (by omega)).1]; exact e41') hr
theorem ct_rvalued (y : MY F n h m ad s) (hN : N ≤ 24) (ht : (t = 20 ∧ w = 8) ∨ (t = 21 ∧ w = 4)) (e41 : am_I h 10 41 m = Int32.ofNat N) (hr : r = bs s (pVA F n N t w)) : am_Ct tt 197 [.ref m, .int (Int32.ofNat t)] h (am_pV (vaQ F n m ad h t N r) no_x) := by
  have key : ∀ (d i : Nat) (k : am_H), d + i = 24 → MY F n k m ad s → mg m ad (Xva t) Ybg h k → am_I k 10 41 m = Int32.ofNat N → (∀ e, e < i → am_A k (ad 26) e = Int32.ofNat 0) → am_Ev tt 197 2 [some (.ref m), some (.int (Int32.ofNat t)), some (.int (Int32.ofNat i)), none, none, none] [] k (am_pV (vaQ F n m ad h t N r) no_x) := by
    intro d
    induction d with
    | zero =>
      intro i k ei y g e41 e26
      have : i = 24 := by omega
      subst this
      have kk := y.1.1
      have t256 : t < 256 := by omega
      refine vc_197_2 tt _ _ _ _ _ _ ?_
      simp (disch := omega) only [kk, qi_lt, qi_le, qi_eq, qi_nn, qi_in, qi_add, qi_l, ql_i, ql_lt, ql_le, ql_eq, ql_add, qc_lt, qc_eq, qc_ge, qc_gt, qc_le, true_and, and_true, and_self, true_or, or_true, false_or, or_false, false_and, and_false, not_true_eq_false, not_false_eq_true, Classical.not_not, true_implies, false_implies, implies_true, exists_eq_left, exists_eq_left', Option.some.injEq, reduceIte, Nat.reduceEqDiff, Nat.reduceLT, Nat.reduceLeDiff, Nat.reduceAdd, Nat.reduceSub, Nat.reduceMul, eq_self, ne_eq, and_imp, forall_const, reduceCtorEq, am_w, List.map_cons, List.map_nil, List.sum_cons, List.sum_nil, Value.category, Nat.zero_le, Nat.le_refl]
      refine ⟨_, _, ct_mnext y, fun v k1 e1 => ?_, fun _ _ z => z.elim⟩
      obtain ⟨y1, g1, ev, eh⟩ := e1
      have gg := g.tr (g1.mo (X' := Xva t) (Y' := Ybg) (fun _ z => z.elim) (fun _ z => by omega))
      have neg : ∀ x : Int32, v = -1 → ¬ v = Int32.ofNat t := fun _ z w => by
        rw [z] at w
        exact absurd w.symm (by rw [qi_m1 (by omega)]; exact id)
      cases s with
      | error e =>
        have ev : v = -1 := ev
        refine ⟨fun z => absurd z (neg 0 ev), fun _ => ?_⟩
        have hr : r = .error e := hr
        rw [hr]
        exact ⟨y1, gg, fun v p' z => by cases z⟩
      | ok p =>
        have hr : r = pVA F n N t w p := hr
        rw [pVA] at hr
        by_cases cp : p < n
        · have := eh ⟨p, rfl, cp⟩
          subst this
          have ev : v = F p &&& Int32.ofNat 255 := by rw [ev]; show (if p < n then _ else _) = _; rw [if_pos cp]
          rw [if_pos cp, ← ev] at hr
          refine ⟨fun c => ?_, fun c => ?_⟩
          · rw [if_pos c] at hr
            have e27 := y.2.2.2.2.1.2
            refine vc_197_30 tt _ _ _ _ _ ⟨kk, kk, _, _, ct_mneed y rfl, fun k2 w2 => ⟨w2.1.1.1, _, _, ct_rbegins w2.1 rfl, fun k3 w3 => ⟨w3.1.1.1, w3.1.1.1, _, _, ct_mtake w3.1 rfl, fun b k4 w4 => ⟨w4.1.1.1, _, _, ct_mfine w4.1, fun z k5 e5 => ?_, fun _ _ z => z.elim⟩, fun _ _ z => z.elim⟩, fun _ _ z => z.elim⟩, fun _ _ z => z.elim⟩
            obtain ⟨rfl, rfl⟩ := e5
            rw [e27]
            have et : (bs (Except.ok p : Ms) fun p => tX F n p t) = .ok ((), p + 1) := by show tX F n p t = _; rw [tX, if_pos cp, ← ev, if_pos c]
            rw [et] at w2 w3 w4
            obtain ⟨y2, g2⟩ := w2
            obtain ⟨y3, g3, v3, e61⟩ := w3
            obtain ⟨y4, g4, v4⟩ := w4
            have g24 : mg m ad Xn Ybg k1 k5 := (g2.mo (fun _ z => z) (fun _ z => by omega)).tr (g3.tr (g4.mo (fun _ z => z) (fun _ z => by omega)))
            have gg5 : mg m ad (Xva t) Ybg h k5 := g.tr (g24.mo (fun _ z => z.elim) (fun _ z => z))
            have e415 : am_I k5 10 41 m = Int32.ofNat N := by rw [(g24.2.2 41 (by omega)).1]; exact e41
            rw [et]
            have e61 := e61 (p + 1) rfl
            have y3 : MY F n k3 m ad (st (tN F n (p + 1) (l64 0) mx64)) := y3
            have v3 : ∀ v p', tN F n (p + 1) (l64 0) mx64 = .ok (v, p') → am_J k3 10 62 m = v := v3
            have y4 : MY F n k5 m ad (st (bs (st (tN F n (p + 1) (l64 0) mx64)) (tB F n))) := y4
            have v4 : ∀ a p', bs (st (tN F n (p + 1) (l64 0) mx64)) (tB F n) = .ok (a, p') → b = a := v4
            -- on with a fault
            have bad : ∀ (e : pe) (k : am_H) (a2 a3 b : Int32), MY F n k m ad (.error e) → mg m ad (Xva t) Ybg h k → am_I k 10 41 m = Int32.ofNat N → r = .error e → am_Ev tt 197 74 [some (.ref m), some (.int (Int32.ofNat t)), some (.int a2), some (.int a3), some (.int b), none] [] k (am_pV (vaQ F n m ad h t N r) no_x) := by
              intro e k a2 a3 b y g e41 er
              refine vc_197_74 tt _ _ _ _ _ _ _ _ ⟨fun _ => ?_, fun _ => ?_⟩
              · exact va_140 (w := w) (told := 0) (q := 0) (pl := 0) hN ht y g e41 er (fun p z => by cases z)
              · exact va_79 (w := w) (told := 0) (q := 0) (pl := 0) (tp := 0) hN ht y g e41 er (fun p z => by cases z)
            show (b01 (isOk (st (bs (st (tN F n (p + 1) (l64 0) mx64)) (tB F n)))) = _ → _) ∧ (¬ b01 (isOk (st (bs (st (tN F n (p + 1) (l64 0) mx64)) (tB F n)))) = _ → _)
            cases e1 : tN F n (p + 1) (l64 0) mx64 with
            | error e =>
              rw [e1] at y4 hr
              exact ⟨fun _ => bad e k5 _ _ _ y4 gg5 e415 hr, fun z => absurd rfl z⟩
            | ok a =>
              obtain ⟨told, q⟩ := a
              have e62 := v3 _ _ e1
              rw [e1] at y3 y4 v4 hr
              have e273 := y3.2.2.2.2.1.2
              rw [e273]
              have y4 : MY F n k5 m ad (st (tB F n q)) := y4
              have v4 : ∀ a p', tB F n q = .ok (a, p') → b = a := v4
              have hr : r = bd (pWH F n N p q) fun g q1 => kV1 F n N w told q (p + 1) g q1 := hr
              rw [pWH, bd_as] at hr
              have hf : vF m told q (p + 1) (Int32.ofNat q) k5 := ⟨by rw [(g4.2.2 62 (by omega)).2]; exact e62, by rw [(g4.2.2 61 (by omega)).1]; exact e61, rfl⟩
              show (b01 (isOk (st (tB F n q))) = _ → _) ∧ (¬ b01 (isOk (st (tB F n q))) = _ → _)
              by_cases cq : q < n
              · have eb : tB F n q = .ok (F q &&& Int32.ofNat 255, q + 1) := by rw [tB, if_pos cq]
                have ebv := v4 _ _ eb
                obtain ⟨bn, hbn, ebn⟩ := a255 (F q)
                rw [ebn] at ebv eb
                subst ebv
                rw [eb] at y4 hr ⊢
                have y4 : MY F n k5 m ad (.ok (q + 1)) := y4
                have hr : r = bd (if Int32.ofNat 1 < Int32.ofNat bn then .error (2, q) else if Int32.ofNat bn = Int32.ofNat 1 then .ok ((fun _ => true), q + 1) else bd (tR F n (q + 1) N) fun g p2 => if cn g N = 0 then .error (2, p) else if cn g N = N then .error (2, q) else .ok (g, p2)) fun g q1 => kV1 F n N w told q (p + 1) g q1 := hr
                refine ⟨fun z => absurd z (show ¬ Int32.ofNat 1 = Int32.ofNat 0 by decide), fun _ => ?_⟩
                rw [qi_le (by omega) (by omega)]
                refine ⟨fun c1 => ?_, fun c1 => ?_⟩
                · rw [if_neg (show ¬ Int32.ofNat 1 < Int32.ofNat bn by rw [qi_lt (by omega) (by omega)]; omega)] at hr
                  refine vc_197_74 tt _ _ _ _ _ _ _ _ ?_
                  rw [qi_eq (by omega) (by omega)]
                  refine ⟨fun c0 => ?_, fun c0 => ?_⟩
                  · rw [if_pos (show Int32.ofNat bn = Int32.ofNat 1 by rw [show bn = 1 by omega])] at hr
                    exact va_140 (s := .ok (q + 1)) hN ht y4 gg5 e415 hr (fun p' z => by cases z; exact ⟨by omega, hf⟩)
                  · rw [if_neg (show ¬ Int32.ofNat bn = Int32.ofNat 1 by rw [qi_eq (by omega) (by omega)]; omega), bd_as] at hr
                    refine va_79 (s := .ok (q + 1)) (tp := p) (told := told) (q := q) (pl := p + 1) hN ht y4 gg5 e415 ?_ (fun p' z => by cases z; exact ⟨by omega, hf, rfl⟩)
                    rw [hr]
                    show _ = kVr F n N w told q (p + 1) p (q + 1)
                    unfold kVr
                    congr 1
                    funext g p2
                    by_cases u1 : cn g N = 0
                    · rw [if_pos u1, if_pos u1]; rfl
                    · rw [if_neg u1, if_neg u1]
                      by_cases u2 : cn g N = N
                      · rw [if_pos u2, if_pos u2]; rfl
                      · rw [if_neg u2, if_neg u2]; rfl
                · rw [if_pos (show Int32.ofNat 1 < Int32.ofNat bn by rw [qi_lt (by omega) (by omega)]; omega)] at hr
                  refine ⟨y4.1.1, _, _, ct_mfails y4 (f := 2) (pl := q) (by omega) (by omega), fun k6 w6 => ?_, fun _ _ z => z.elim⟩
                  exact bad (2, q) k6 _ _ _ w6.1 (gg5.tr (w6.2.mo (fun _ z => z.elim) (fun _ z => by omega))) (by rw [(w6.2.2.2 41 (by omega)).1]; exact e415) hr
              · have eb : tB F n q = .error (1, n) := by rw [tB, if_neg cq]
                rw [eb] at y4 hr ⊢
                exact ⟨fun _ => bad (1, n) k5 _ _ _ y4 gg5 e415 hr, fun z => absurd rfl z⟩
          · rw [if_neg c] at hr
            rw [hr]
            exact ⟨y, g, fun v p' z e he => by cases z; exact ⟨e26 e (by omega), fun x hx => by cases hx⟩⟩
        · have ev : v = -1 := by rw [ev]; show (if p < n then _ else _) = _; rw [if_neg cp]
          have eb : (bs (Except.ok p : Ms) fun p => if p < n then .ok p else .error (1, n)) = .error (1, n) := by show (if p < n then _ else _) = _; rw [if_neg cp]
          rw [eb] at y1
          rw [if_neg cp] at hr
          refine ⟨fun z => absurd z (neg 0 ev), fun _ => ?_⟩
          rw [hr]
          exact ⟨y1, gg, fun v p' z => by cases z⟩
    | succ d ih =>
      intro i k ei y g e41 e26
      have kk := y.1.1
      have q1 : ¬ 24 ≤ i := by omega
      have i24 : i < 24 := by omega
      obtain ⟨b1, b2, b3⟩ := md_r y.1 (k := 26) (by decide) rfl (by decide)
      refine vc_197_2 tt _ _ _ _ _ _ ?_
      simp (disch := omega) only [kk, q1, b1, b2, b3, i24, z_1, qi_lt, qi_le, qi_eq, qi_nn, qi_in, qi_add, qi_l, ql_i, ql_lt, ql_le, ql_eq, ql_add, qc_lt, qc_eq, qc_ge, qc_gt, qc_le, true_and, and_true, and_self, true_or, or_true, false_or, or_false, false_and, and_false, not_true_eq_false, not_false_eq_true, Classical.not_not, true_implies, false_implies, implies_true, exists_eq_left, exists_eq_left', Option.some.injEq, reduceIte, Nat.reduceEqDiff, Nat.reduceLT, Nat.reduceLeDiff, Nat.reduceAdd, Nat.reduceSub, Nat.reduceMul, eq_self, ne_eq, and_imp, forall_const, reduceCtorEq, am_w, List.map_cons, List.map_nil, List.sum_cons, List.sum_nil, Value.category, Nat.zero_le, Nat.le_refl]
      have s1 : mg m ad (Xva t) Yz k (am_sA k (ad 26) i (Int32.ofNat 0)) := mg.sA y.1 (Or.inl rfl)
      refine ih (i + 1) _ (by omega) (y.on s1 (by omega) id id id id) (g.tr (s1.mo (fun _ z => z) (fun _ z => z.elim))) (by simp only [am_hs]; exact e41) (fun e he => ?_)
      by_cases ce : e = i
      · subst ce
        simp only [am_hs, true_and, and_true, and_self, true_or, or_true, false_or, or_false, false_and, and_false, not_true_eq_false, not_false_eq_true, Classical.not_not, true_implies, false_implies, implies_true, exists_eq_left, exists_eq_left', Option.some.injEq, reduceIte, Nat.reduceEqDiff, Nat.reduceLT, Nat.reduceLeDiff, Nat.reduceAdd, Nat.reduceSub, Nat.reduceMul, eq_self, ne_eq, and_imp, forall_const, reduceCtorEq, am_w, List.map_cons, List.map_nil, List.sum_cons, List.sum_nil, Value.category, Nat.zero_le, Nat.le_refl]
      · simp (disch := omega) only [am_hs, ce, true_and, and_true, and_self, true_or, or_true, false_or, or_false, false_and, and_false, not_true_eq_false, not_false_eq_true, Classical.not_not, true_implies, false_implies, implies_true, exists_eq_left, exists_eq_left', Option.some.injEq, reduceIte, Nat.reduceEqDiff, Nat.reduceLT, Nat.reduceLeDiff, Nat.reduceAdd, Nat.reduceSub, Nat.reduceMul, eq_self, ne_eq, and_imp, forall_const, reduceCtorEq, am_w, List.map_cons, List.map_nil, List.sum_cons, List.sum_nil, Value.category, Nat.zero_le, Nat.le_refl]
        exact e26 e (by omega)
  exact vc_197_0 tt _ _ h _ _ (key 24 0 h (by omega) y mg.re e41 (fun e he => absurd he (by omega)))
end MVA
