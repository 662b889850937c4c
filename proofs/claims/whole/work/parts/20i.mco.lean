/-! deps: 20h -/
/-! ===== the reference reads: a coder ===== -/
/-! 185 yX10_folder -/
theorem vc_185_0 (tt : Nat → Nat) (a0 : Nat) (a1 : Int32) (h : am_H) (Q : am_H → Prop) (Qx : String → am_H → Prop) (q :
  (am_K h a0 = 11 ∧ ∃ (Q2 : Int32 → am_H → Prop) (X2 : String → am_H → Prop), am_Ct tt 182 [.ref a0, .long (Int64.ofNat 1), .long (Int64.ofNat 3)] h (am_pI Q2 X2) ∧ (∀ x3 h1, Q2 x3 h1 →
   am_Ev tt 185 11 [some (.ref a0), some (.int a1), some (.int x3), some (.int (Int32.ofNat 0)), none, none, none, none] [] h1 (am_pV Q Qx)) ∧ (∀ E4 h1, X2 E4 h1 → Qx E4 h1))) :
  am_Ev tt 185 0 [some (.ref a0), some (.int a1), none, none, none, none, none, none] [] h (am_pV Q Qx) := am_vc 10 [(11, [true, true, true, true, false, false, false, false]), (29, [true, true, true, true, true, false, false, false]), (65, [true, true, true, true, false, true, false, false]), (79, [true, true, true, true, false, true, true, false]), (118, [true, true, true, true, false, true, false, false]), (151, [true, true, true, true, false, false, false, false]), (154, [true, true, true, true, false, false, true, false]), (206, [true, true, true, true, false, false, false, false]), (223, [true, true, true, false, false, false, false, false]), (225, [true, true, true, true, false, false, false, false]), (252, [true, true, true, true, false, false, false, false]), (277, [true, true, true, false, false, false, false, false])] q
theorem vc_185_11 (tt : Nat → Nat) (a0 : Nat) (a1 : Int32) (a2 : Int32) (a3 : Int32) (h : am_H) (Q : am_H → Prop) (Qx : String → am_H → Prop) (q :
  ((a2 ≤ a3 →
   am_Ev tt 185 223 [some (.ref a0), some (.int a1), some (.int a2), none, none, none, none, none] [] h (am_pV Q Qx)) ∧
  (¬ (a2 ≤ a3) →
   (am_K h a0 = 11 ∧ ∃ (Q2 : Int32 → am_H → Prop) (X2 : String → am_H → Prop), am_Ct tt 176 [.ref a0] h (am_pI Q2 X2) ∧ (∀ x3 h1, Q2 x3 h1 →
    ((x3 = (Int32.ofNat 0) →
     am_Ev tt 185 223 [some (.ref a0), some (.int a1), some (.int a2), none, none, none, none, none] [] h1 (am_pV Q Qx)) ∧
    (¬ (x3 = (Int32.ofNat 0)) →
     (am_K h1 a0 = 11 ∧
     am_Ev tt 185 29 [some (.ref a0), some (.int a1), some (.int a2), some (.int a3), some (.int (am_I h1 10 27 a0)), none, none, none] [] h1 (am_pV Q Qx))))) ∧ (∀ E4 h1, X2 E4 h1 → Qx E4 h1))))) :
  am_Ev tt 185 11 [some (.ref a0), some (.int a1), some (.int a2), some (.int a3), none, none, none, none] [] h (am_pV Q Qx) := am_vc 12 [(11, [true, true, true, true, false, false, false, false]), (29, [true, true, true, true, true, false, false, false]), (65, [true, true, true, true, false, true, false, false]), (79, [true, true, true, true, false, true, true, false]), (118, [true, true, true, true, false, true, false, false]), (151, [true, true, true, true, false, false, false, false]), (154, [true, true, true, true, false, false, true, false]), (206, [true, true, true, true, false, false, false, false]), (223, [true, true, true, false, false, false, false, false]), (225, [true, true, true, true, false, false, false, false]), (252, [true, true, true, true, false, false, false, false]), (277, [true, true, true, false, false, false, false, false])] q
theorem vc_185_29 (tt : Nat → Nat) (a0 : Nat) (a1 : Int32) (a2 : Int32) (a3 : Int32) (a4 : Int32) (h : am_H) (Q : am_H → Prop) (Qx : String → am_H → Prop) (q :
  (am_K h a0 = 11 ∧ ∃ (Q2 : Int32 → am_H → Prop) (X2 : String → am_H → Prop), am_Ct tt 179 [.ref a0] h (am_pI Q2 X2) ∧ (∀ x3 h1, Q2 x3 h1 →
   (am_K h1 a0 = 11 ∧ ∃ (Q5 : Int32 → am_H → Prop) (X5 : String → am_H → Prop), am_Ct tt 176 [.ref a0] h1 (am_pI Q5 X5) ∧ (∀ x6 h4, Q5 x6 h4 →
    ((x6 = (Int32.ofNat 0) →
     am_Ev tt 185 65 [some (.ref a0), some (.int a1), some (.int a2), some (.int a3), none, some (.int x3), none, none] [] h4 (am_pV Q Qx)) ∧
    (¬ (x6 = (Int32.ofNat 0)) →
     (∃ (Q8 : Int32 → am_H → Prop) (X8 : String → am_H → Prop), am_Ct tt 130 [.long ((x3 &&& (-33 : Int32))).toInt64, .long (Int64.ofNat 1), .long (Int64.ofNat 4)] h4 (am_pI Q8 X8) ∧ (∀ x9 h7, Q8 x9 h7 →
      ((¬ x9 = (Int32.ofNat 0) →
       am_Ev tt 185 65 [some (.ref a0), some (.int a1), some (.int a2), some (.int a3), none, some (.int x3), none, none] [] h7 (am_pV Q Qx)) ∧
      (¬ (¬ x9 = (Int32.ofNat 0)) →
       (am_K h7 a0 = 11 ∧ ∃ (Q11 : am_H → Prop) (X11 : String → am_H → Prop), am_Ct tt 177 [.ref a0, .int (Int32.ofNat 2), .int a4] h7 (am_pV Q11 X11) ∧ (∀ h10, Q11 h10 →
        am_Ev tt 185 65 [some (.ref a0), some (.int a1), some (.int a2), some (.int a3), none, some (.int x3), none, none] [] h10 (am_pV Q Qx)) ∧ (∀ E12 h10, X11 E12 h10 → Qx E12 h10))))) ∧ (∀ E13 h7, X8 E13 h7 → Qx E13 h7))))) ∧ (∀ E14 h4, X5 E14 h4 → Qx E14 h4))) ∧ (∀ E15 h1, X2 E15 h1 → Qx E15 h1))) :
  am_Ev tt 185 29 [some (.ref a0), some (.int a1), some (.int a2), some (.int a3), some (.int a4), none, none, none] [] h (am_pV Q Qx) := am_vc 21 [(11, [true, true, true, true, false, false, false, false]), (29, [true, true, true, true, true, false, false, false]), (65, [true, true, true, true, false, true, false, false]), (79, [true, true, true, true, false, true, true, false]), (118, [true, true, true, true, false, true, false, false]), (151, [true, true, true, true, false, false, false, false]), (154, [true, true, true, true, false, false, true, false]), (206, [true, true, true, true, false, false, false, false]), (223, [true, true, true, false, false, false, false, false]), (225, [true, true, true, true, false, false, false, false]), (252, [true, true, true, true, false, false, false, false]), (277, [true, true, true, false, false, false, false, false])] q
theorem vc_185_65 (tt : Nat → Nat) (a0 : Nat) (a1 : Int32) (a2 : Int32) (a3 : Int32) (a5 : Int32) (h : am_H) (Q : am_H → Prop) (Qx : String → am_H → Prop) (q :
  (am_K h a0 = 11 ∧ ∃ q1, am_R h 10 53 a0 = some q1 ∧
  (am_K h q1 = 21 ∧ vp_in a3 (am_N h q1) ∧
  am_Ev tt 185 79 [some (.ref a0), some (.int a1), some (.int a2), some (.int a3), none, some (.int a5), some (.int (Int32.ofNat 0)), none] [] (am_sA h q1 (a3).toNatClampNeg (a5 &&& (Int32.ofNat 7))) (am_pV Q Qx)))) :
  am_Ev tt 185 65 [some (.ref a0), some (.int a1), some (.int a2), some (.int a3), none, some (.int a5), none, none] [] h (am_pV Q Qx) := am_vc 12 [(11, [true, true, true, true, false, false, false, false]), (29, [true, true, true, true, true, false, false, false]), (65, [true, true, true, true, false, true, false, false]), (79, [true, true, true, true, false, true, true, false]), (118, [true, true, true, true, false, true, false, false]), (151, [true, true, true, true, false, false, false, false]), (154, [true, true, true, true, false, false, true, false]), (206, [true, true, true, true, false, false, false, false]), (223, [true, true, true, false, false, false, false, false]), (225, [true, true, true, true, false, false, false, false]), (252, [true, true, true, true, false, false, false, false]), (277, [true, true, true, false, false, false, false, false])] q
theorem vc_185_79 (tt : Nat → Nat) (a0 : Nat) (a1 : Int32) (a2 : Int32) (a3 : Int32) (a5 : Int32) (a6 : Int32) (h : am_H) (Q : am_H → Prop) (Qx : String → am_H → Prop) (q :
  (am_K h a0 = 11 ∧ ∃ q1, am_R h 10 53 a0 = some q1 ∧
  ((am_K h q1 = 21 ∨ am_K h q1 = 31) ∧ vp_in a3 (am_N h q1) ∧
  (((am_A h q1 (a3).toNatClampNeg) ≤ a6 →
   am_Ev tt 185 118 [some (.ref a0), some (.int a1), some (.int a2), some (.int a3), none, some (.int a5), none, none] [] h (am_pV Q Qx)) ∧
  (¬ ((am_A h q1 (a3).toNatClampNeg) ≤ a6) →
   (am_K h a0 = 11 ∧ ∃ (Q3 : Int32 → am_H → Prop) (X3 : String → am_H → Prop), am_Ct tt 176 [.ref a0] h (am_pI Q3 X3) ∧ (∀ x4 h2, Q3 x4 h2 →
    ((x4 = (Int32.ofNat 0) →
     am_Ev tt 185 118 [some (.ref a0), some (.int a1), some (.int a2), some (.int a3), none, some (.int a5), none, none] [] h2 (am_pV Q Qx)) ∧
    (¬ (x4 = (Int32.ofNat 0)) →
     (am_K h2 a0 = 11 ∧ ∃ q5, am_R h2 10 54 a0 = some q5 ∧
     (am_K h2 a0 = 11 ∧ ∃ (Q7 : Int32 → am_H → Prop) (X7 : String → am_H → Prop), am_Ct tt 179 [.ref a0] h2 (am_pI Q7 X7) ∧ (∀ x8 h6, Q7 x8 h6 →
      (am_K h6 q5 = 21 ∧ vp_in (((Int32.ofNat 4) * a3) + a6) (am_N h6 q5) ∧
      am_Ev tt 185 79 [some (.ref a0), some (.int a1), some (.int a2), some (.int a3), none, some (.int a5), some (.int (a6 + (Int32.ofNat 1))), none] [] (am_sA h6 q5 ((((Int32.ofNat 4) * a3) + a6)).toNatClampNeg x8) (am_pV Q Qx))) ∧ (∀ E9 h6, X7 E9 h6 → Qx E9 h6)))))) ∧ (∀ E10 h2, X3 E10 h2 → Qx E10 h2))))))) :
  am_Ev tt 185 79 [some (.ref a0), some (.int a1), some (.int a2), some (.int a3), none, some (.int a5), some (.int a6), none] [] h (am_pV Q Qx) := am_vc 24 [(11, [true, true, true, true, false, false, false, false]), (29, [true, true, true, true, true, false, false, false]), (65, [true, true, true, true, false, true, false, false]), (79, [true, true, true, true, false, true, true, false]), (118, [true, true, true, true, false, true, false, false]), (151, [true, true, true, true, false, false, false, false]), (154, [true, true, true, true, false, false, true, false]), (206, [true, true, true, true, false, false, false, false]), (223, [true, true, true, false, false, false, false, false]), (225, [true, true, true, true, false, false, false, false]), (252, [true, true, true, true, false, false, false, false]), (277, [true, true, true, false, false, false, false, false])] q
theorem vc_185_118 (tt : Nat → Nat) (a0 : Nat) (a1 : Int32) (a2 : Int32) (a3 : Int32) (a5 : Int32) (h : am_H) (Q : am_H → Prop) (Qx : String → am_H → Prop) (q :
  (am_K h a0 = 11 ∧ ∃ q1, am_R h 10 55 a0 = some q1 ∧
  (am_K h a0 = 11 ∧ ∃ (Q3 : Int32 → am_H → Prop) (X3 : String → am_H → Prop), am_Ct tt 176 [.ref a0] h (am_pI Q3 X3) ∧ (∀ x4 h2, Q3 x4 h2 →
   ((x4 = (Int32.ofNat 0) →
    (am_K h2 q1 = 21 ∧ vp_in a3 (am_N h2 q1) ∧
    am_Ev tt 185 151 [some (.ref a0), some (.int a1), some (.int a2), some (.int a3), none, none, none, none] [] (am_sA h2 q1 (a3).toNatClampNeg (Int32.ofNat 0)) (am_pV Q Qx))) ∧
   (¬ (x4 = (Int32.ofNat 0)) →
    (((a5 &&& (Int32.ofNat 32)) = (Int32.ofNat 0) →
     (am_K h2 q1 = 21 ∧ vp_in a3 (am_N h2 q1) ∧
     am_Ev tt 185 151 [some (.ref a0), some (.int a1), some (.int a2), some (.int a3), none, none, none, none] [] (am_sA h2 q1 (a3).toNatClampNeg (Int32.ofNat 0)) (am_pV Q Qx))) ∧
    (¬ ((a5 &&& (Int32.ofNat 32)) = (Int32.ofNat 0)) →
     (am_K h2 a0 = 11 ∧ ∃ (Q6 : Int32 → am_H → Prop) (X6 : String → am_H → Prop), am_Ct tt 182 [.ref a0, .long (Int64.ofNat 1), .long (Int64.ofNat 4)] h2 (am_pI Q6 X6) ∧ (∀ x7 h5, Q6 x7 h5 →
      (am_K h5 q1 = 21 ∧ vp_in a3 (am_N h5 q1) ∧
      am_Ev tt 185 151 [some (.ref a0), some (.int a1), some (.int a2), some (.int a3), none, none, none, none] [] (am_sA h5 q1 (a3).toNatClampNeg x7) (am_pV Q Qx))) ∧ (∀ E8 h5, X6 E8 h5 → Qx E8 h5))))))) ∧ (∀ E9 h2, X3 E9 h2 → Qx E9 h2)))) :
  am_Ev tt 185 118 [some (.ref a0), some (.int a1), some (.int a2), some (.int a3), none, some (.int a5), none, none] [] h (am_pV Q Qx) := am_vc 19 [(11, [true, true, true, true, false, false, false, false]), (29, [true, true, true, true, true, false, false, false]), (65, [true, true, true, true, false, true, false, false]), (79, [true, true, true, true, false, true, true, false]), (118, [true, true, true, true, false, true, false, false]), (151, [true, true, true, true, false, false, false, false]), (154, [true, true, true, true, false, false, true, false]), (206, [true, true, true, true, false, false, false, false]), (223, [true, true, true, false, false, false, false, false]), (225, [true, true, true, true, false, false, false, false]), (252, [true, true, true, true, false, false, false, false]), (277, [true, true, true, false, false, false, false, false])] q
theorem vc_185_151 (tt : Nat → Nat) (a0 : Nat) (a1 : Int32) (a2 : Int32) (a3 : Int32) (h : am_H) (Q : am_H → Prop) (Qx : String → am_H → Prop) (q :
  am_Ev tt 185 154 [some (.ref a0), some (.int a1), some (.int a2), some (.int a3), none, none, some (.int (Int32.ofNat 0)), none] [] h (am_pV Q Qx)) :
  am_Ev tt 185 151 [some (.ref a0), some (.int a1), some (.int a2), some (.int a3), none, none, none, none] [] h (am_pV Q Qx) := am_vc 5 [(11, [true, true, true, true, false, false, false, false]), (29, [true, true, true, true, true, false, false, false]), (65, [true, true, true, true, false, true, false, false]), (79, [true, true, true, true, false, true, true, false]), (118, [true, true, true, true, false, true, false, false]), (151, [true, true, true, true, false, false, false, false]), (154, [true, true, true, true, false, false, true, false]), (206, [true, true, true, true, false, false, false, false]), (223, [true, true, true, false, false, false, false, false]), (225, [true, true, true, true, false, false, false, false]), (252, [true, true, true, true, false, false, false, false]), (277, [true, true, true, false, false, false, false, false])] q
theorem vc_185_154 (tt : Nat → Nat) (a0 : Nat) (a1 : Int32) (a2 : Int32) (a3 : Int32) (a6 : Int32) (h : am_H) (Q : am_H → Prop) (Qx : String → am_H → Prop) (q :
  (am_K h a0 = 11 ∧ ∃ q1, am_R h 10 55 a0 = some q1 ∧
  ((am_K h q1 = 21 ∨ am_K h q1 = 31) ∧ vp_in a3 (am_N h q1) ∧
  (((am_A h q1 (a3).toNatClampNeg) ≤ a6 →
   am_Ev tt 185 206 [some (.ref a0), some (.int a1), some (.int a2), some (.int a3), none, none, none, none] [] h (am_pV Q Qx)) ∧
  (¬ ((am_A h q1 (a3).toNatClampNeg) ≤ a6) →
   (am_K h a0 = 11 ∧ ∃ (Q3 : Int32 → am_H → Prop) (X3 : String → am_H → Prop), am_Ct tt 176 [.ref a0] h (am_pI Q3 X3) ∧ (∀ x4 h2, Q3 x4 h2 →
    ((x4 = (Int32.ofNat 0) →
     am_Ev tt 185 206 [some (.ref a0), some (.int a1), some (.int a2), some (.int a3), none, none, none, none] [] h2 (am_pV Q Qx)) ∧
    (¬ (x4 = (Int32.ofNat 0)) →
     (am_K h2 a0 = 11 ∧ ∃ (Q6 : Int32 → am_H → Prop) (X6 : String → am_H → Prop), am_Ct tt 179 [.ref a0] h2 (am_pI Q6 X6) ∧ (∀ x7 h5, Q6 x7 h5 →
      (am_K h5 a0 = 11 ∧ ∃ q8, am_R h5 10 56 a0 = some q8 ∧
      ((¬ a6 = (Int32.ofNat 0) →
       (am_K h5 a0 = 11 ∧ ∃ q9, am_R h5 10 56 a0 = some q9 ∧
       ((am_K h5 q9 = 21 ∨ am_K h5 q9 = 31) ∧ vp_in a3 (am_N h5 q9) ∧
       (am_K h5 q8 = 21 ∧ vp_in a3 (am_N h5 q8) ∧
       am_Ev tt 185 154 [some (.ref a0), some (.int a1), some (.int a2), some (.int a3), none, none, some (.int (a6 + (Int32.ofNat 1))), none] [] (am_sA h5 q8 (a3).toNatClampNeg (am_A h5 q9 (a3).toNatClampNeg)) (am_pV Q Qx))))) ∧
      (¬ (¬ a6 = (Int32.ofNat 0)) →
       (am_K h5 q8 = 21 ∧ vp_in a3 (am_N h5 q8) ∧
       am_Ev tt 185 154 [some (.ref a0), some (.int a1), some (.int a2), some (.int a3), none, none, some (.int (a6 + (Int32.ofNat 1))), none] [] (am_sA h5 q8 (a3).toNatClampNeg x7) (am_pV Q Qx)))))) ∧ (∀ E10 h5, X6 E10 h5 → Qx E10 h5))))) ∧ (∀ E11 h2, X3 E11 h2 → Qx E11 h2))))))) :
  am_Ev tt 185 154 [some (.ref a0), some (.int a1), some (.int a2), some (.int a3), none, none, some (.int a6), none] [] h (am_pV Q Qx) := am_vc 27 [(11, [true, true, true, true, false, false, false, false]), (29, [true, true, true, true, true, false, false, false]), (65, [true, true, true, true, false, true, false, false]), (79, [true, true, true, true, false, true, true, false]), (118, [true, true, true, true, false, true, false, false]), (151, [true, true, true, true, false, false, false, false]), (154, [true, true, true, true, false, false, true, false]), (206, [true, true, true, true, false, false, false, false]), (223, [true, true, true, false, false, false, false, false]), (225, [true, true, true, true, false, false, false, false]), (252, [true, true, true, true, false, false, false, false]), (277, [true, true, true, false, false, false, false, false])] q
theorem vc_185_206 (tt : Nat → Nat) (a0 : Nat) (a1 : Int32) (a2 : Int32) (a3 : Int32) (h : am_H) (Q : am_H → Prop) (Qx : String → am_H → Prop) (q :
  (am_K h a0 = 11 ∧ ∃ q1, am_R h 10 52 a0 = some q1 ∧
  (am_K h a0 = 11 ∧ ∃ (Q3 : Int32 → am_H → Prop) (X3 : String → am_H → Prop), am_Ct tt 186 [.ref a0, .int a3] h (am_pI Q3 X3) ∧ (∀ x4 h2, Q3 x4 h2 →
   (am_K h2 q1 = 21 ∧ vp_in a3 (am_N h2 q1) ∧
   am_Ev tt 185 11 [some (.ref a0), some (.int a1), some (.int a2), some (.int (a3 + (Int32.ofNat 1))), none, none, none, none] [] (am_sA h2 q1 (a3).toNatClampNeg x4) (am_pV Q Qx))) ∧ (∀ E5 h2, X3 E5 h2 → Qx E5 h2)))) :
  am_Ev tt 185 206 [some (.ref a0), some (.int a1), some (.int a2), some (.int a3), none, none, none, none] [] h (am_pV Q Qx) := am_vc 12 [(11, [true, true, true, true, false, false, false, false]), (29, [true, true, true, true, true, false, false, false]), (65, [true, true, true, true, false, true, false, false]), (79, [true, true, true, true, false, true, true, false]), (118, [true, true, true, true, false, true, false, false]), (151, [true, true, true, true, false, false, false, false]), (154, [true, true, true, true, false, false, true, false]), (206, [true, true, true, true, false, false, false, false]), (223, [true, true, true, false, false, false, false, false]), (225, [true, true, true, true, false, false, false, false]), (252, [true, true, true, true, false, false, false, false]), (277, [true, true, true, false, false, false, false, false])] q
theorem vc_185_223 (tt : Nat → Nat) (a0 : Nat) (a1 : Int32) (a2 : Int32) (h : am_H) (Q : am_H → Prop) (Qx : String → am_H → Prop) (q :
  am_Ev tt 185 225 [some (.ref a0), some (.int a1), some (.int a2), some (.int (Int32.ofNat 0)), none, none, none, none] [] h (am_pV Q Qx)) :
  am_Ev tt 185 223 [some (.ref a0), some (.int a1), some (.int a2), none, none, none, none, none] [] h (am_pV Q Qx) := am_vc 5 [(11, [true, true, true, true, false, false, false, false]), (29, [true, true, true, true, true, false, false, false]), (65, [true, true, true, true, false, true, false, false]), (79, [true, true, true, true, false, true, true, false]), (118, [true, true, true, true, false, true, false, false]), (151, [true, true, true, true, false, false, false, false]), (154, [true, true, true, true, false, false, true, false]), (206, [true, true, true, true, false, false, false, false]), (223, [true, true, true, false, false, false, false, false]), (225, [true, true, true, true, false, false, false, false]), (252, [true, true, true, true, false, false, false, false]), (277, [true, true, true, false, false, false, false, false])] q
theorem vc_185_225 (tt : Nat → Nat) (a0 : Nat) (a1 : Int32) (a2 : Int32) (a3 : Int32) (h : am_H) (Q : am_H → Prop) (Qx : String → am_H → Prop) (q :
  (((Int32.ofNat 3) ≤ a3 →
   am_Ev tt 185 252 [some (.ref a0), some (.int a1), some (.int a2), some (.int (Int32.ofNat 0)), none, none, none, none] [] h (am_pV Q Qx)) ∧
  (¬ ((Int32.ofNat 3) ≤ a3) →
   (am_K h a0 = 11 ∧ ∃ q1, am_R h 10 57 a0 = some q1 ∧
   (am_K h q1 = 21 ∧ vp_in a3 (am_N h q1) ∧
   (am_K h a0 = 11 ∧ ∃ q2, am_R h 10 58 a0 = some q2 ∧
   (am_K h q2 = 21 ∧ vp_in a3 (am_N h q2) ∧
   am_Ev tt 185 225 [some (.ref a0), some (.int a1), some (.int a2), some (.int (a3 + (Int32.ofNat 1))), none, none, none, none] [] (am_sA (am_sA h q1 (a3).toNatClampNeg (-1 : Int32)) q2 (a3).toNatClampNeg (-1 : Int32)) (am_pV Q Qx)))))))) :
  am_Ev tt 185 225 [some (.ref a0), some (.int a1), some (.int a2), some (.int a3), none, none, none, none] [] h (am_pV Q Qx) := am_vc 18 [(11, [true, true, true, true, false, false, false, false]), (29, [true, true, true, true, true, false, false, false]), (65, [true, true, true, true, false, true, false, false]), (79, [true, true, true, true, false, true, true, false]), (118, [true, true, true, true, false, true, false, false]), (151, [true, true, true, true, false, false, false, false]), (154, [true, true, true, true, false, false, true, false]), (206, [true, true, true, true, false, false, false, false]), (223, [true, true, true, false, false, false, false, false]), (225, [true, true, true, true, false, false, false, false]), (252, [true, true, true, true, false, false, false, false]), (277, [true, true, true, false, false, false, false, false])] q
set_option maxRecDepth 4096 in
theorem vc_185_252 (tt : Nat → Nat) (a0 : Nat) (a1 : Int32) (a2 : Int32) (a3 : Int32) (h : am_H) (Q : am_H → Prop) (Qx : String → am_H → Prop) (q :
  ((a2 ≤ (a3 + (Int32.ofNat 1)) →
   am_Ev tt 185 277 [some (.ref a0), some (.int a1), some (.int a2), none, none, none, none, none] [] h (am_pV Q Qx)) ∧
  (¬ (a2 ≤ (a3 + (Int32.ofNat 1))) →
   (am_K h a0 = 11 ∧ ∃ (Q2 : Int32 → am_H → Prop) (X2 : String → am_H → Prop), am_Ct tt 176 [.ref a0] h (am_pI Q2 X2) ∧ (∀ x3 h1, Q2 x3 h1 →
    ((x3 = (Int32.ofNat 0) →
     am_Ev tt 185 277 [some (.ref a0), some (.int a1), some (.int a2), none, none, none, none, none] [] h1 (am_pV Q Qx)) ∧
    (¬ (x3 = (Int32.ofNat 0)) →
     (am_K h1 a0 = 11 ∧ ∃ (Q5 : am_H → Prop) (X5 : String → am_H → Prop), am_Ct tt 187 [.ref a0, .int a2] h1 (am_pV Q5 X5) ∧ (∀ h4, Q5 h4 →
      am_Ev tt 185 252 [some (.ref a0), some (.int a1), some (.int a2), some (.int (a3 + (Int32.ofNat 1))), none, none, none, none] [] h4 (am_pV Q Qx)) ∧ (∀ E6 h4, X5 E6 h4 → Qx E6 h4))))) ∧ (∀ E7 h1, X2 E7 h1 → Qx E7 h1))))) :
  am_Ev tt 185 252 [some (.ref a0), some (.int a1), some (.int a2), some (.int a3), none, none, none, none] [] h (am_pV Q Qx) := am_vc 16 [(11, [true, true, true, true, false, false, false, false]), (29, [true, true, true, true, true, false, false, false]), (65, [true, true, true, true, false, true, false, false]), (79, [true, true, true, true, false, true, true, false]), (118, [true, true, true, true, false, true, false, false]), (151, [true, true, true, true, false, false, false, false]), (154, [true, true, true, true, false, false, true, false]), (206, [true, true, true, true, false, false, false, false]), (223, [true, true, true, false, false, false, false, false]), (225, [true, true, true, true, false, false, false, false]), (252, [true, true, true, true, false, false, false, false]), (277, [true, true, true, false, false, false, false, false])] q
set_option maxRecDepth 4096 in
theorem vc_185_277 (tt : Nat → Nat) (a0 : Nat) (a1 : Int32) (a2 : Int32) (h : am_H) (Q : am_H → Prop) (Qx : String → am_H → Prop) (q :
  (am_K h a0 = 11 ∧ ∃ (Q2 : Int32 → am_H → Prop) (X2 : String → am_H → Prop), am_Ct tt 176 [.ref a0] h (am_pI Q2 X2) ∧ (∀ x3 h1, Q2 x3 h1 →
   ((x3 = (Int32.ofNat 0) →
    Q h1) ∧
   (¬ (x3 = (Int32.ofNat 0)) →
    (am_K h1 a0 = 11 ∧ ∃ (Q5 : am_H → Prop) (X5 : String → am_H → Prop), am_Ct tt 188 [.ref a0, .int a1, .int a2] h1 (am_pV Q5 X5) ∧ (∀ h4, Q5 h4 →
     Q h4) ∧ (∀ E6 h4, X5 E6 h4 → Qx E6 h4))))) ∧ (∀ E7 h1, X2 E7 h1 → Qx E7 h1))) :
  am_Ev tt 185 277 [some (.ref a0), some (.int a1), some (.int a2), none, none, none, none, none] [] h (am_pV Q Qx) := am_vc 10 [(11, [true, true, true, true, false, false, false, false]), (29, [true, true, true, true, true, false, false, false]), (65, [true, true, true, true, false, true, false, false]), (79, [true, true, true, true, false, true, true, false]), (118, [true, true, true, true, false, true, false, false]), (151, [true, true, true, true, false, false, false, false]), (154, [true, true, true, true, false, false, true, false]), (206, [true, true, true, true, false, false, false, false]), (223, [true, true, true, false, false, false, false, false]), (225, [true, true, true, true, false, false, false, false]), (252, [true, true, true, true, false, false, false, false]), (277, [true, true, true, false, false, false, false, false])] q

theorem cf1 : ∀ b, b < 256 → ((Int64.ofNat 1 ≤ (Int32.ofNat b &&& (-33 : Int32)).toInt64 ∧ (Int32.ofNat b &&& (-33 : Int32)).toInt64 ≤ Int64.ofNat 4) ↔ ¬ ((Int32.ofNat b &&& (-33 : Int32)).toNatClampNeg < 1 ∨ 4 < (Int32.ofNat b &&& (-33 : Int32)).toNatClampNeg)) := by decide +kernel
theorem cf2 : ∀ b, b < 256 → ¬ ((Int32.ofNat b &&& (-33 : Int32)).toNatClampNeg < 1 ∨ 4 < (Int32.ofNat b &&& (-33 : Int32)).toNatClampNeg) → Int32.ofNat b &&& Int32.ofNat 7 = Int32.ofNat (Int32.ofNat b &&& (-33 : Int32)).toNatClampNeg ∧ ((Int32.ofNat b &&& Int32.ofNat 32 = Int32.ofNat 0) ↔ Int32.ofNat b = (Int32.ofNat b &&& (-33 : Int32))) := by decide +kernel
section MCO
variable {tt : Nat → Nat} {F : Fn} {n m : Nat} {ad : Nat → Nat} {h h' h'' k k' : am_H} {s : Ms} {X Y X' Y' : Nat → Prop}
abbrev Xco (k : Nat) : Prop := k = 52 ∨ k = 53 ∨ k = 54 ∨ k = 55 ∨ k = 56
def kp (c : Nat) (ad : Nat → Nat) (k k1 : am_H) : Prop := ∀ j, j < c → am_A k1 (ad 52) j = am_A k (ad 52) j ∧ am_A k1 (ad 56) j = am_A k (ad 56) j
/-- a coder's cells are told -/
def coQ (ad : Nat → Nat) (c : Nat) (r : Except pe ((Int32 × Int32) × Nat)) (k : am_H) : Prop := ∀ kd p', r = .ok (kd, p') → am_A k (ad 52) c = kd.1 ∧ (kd.1 = Int32.ofNat 1 → am_A k (ad 56) c + Int32.ofNat 1 = kd.2)
def coN (tt : Nat → Nat) (F : Fn) (n m : Nat) (ad : Nat → Nat) (k : am_H) (c : Nat) (a1 a2 : Int32) (r : Except pe ((Int32 × Int32) × Nat)) (PO : am_P) : Prop := ∀ k', MY F n k' m ad (st r) → mg m ad Xco Yn k k' → coQ ad c r k' → kp c ad k k' → am_Ev tt 185 11 [some (.ref m), some (.int a1), some (.int a2), some (.int (Int32.ofNat (c + 1))), none, none, none, none] [] k' PO
theorem co_206 {c : Nat} (hc : c < 3) {a1 a2 : Int32} {r : Except pe ((Int32 × Int32) × Nat)} {Q : am_H → Prop} {Qx : String → am_H → Prop} (nx : coN tt F n m ad k c a1 a2 r (am_pV Q Qx)) {k1 : am_H} (y : MY F n k1 m ad (st r)) (g : mg m ad Xco Yn k k1) (hp : kp c ad k k1)
    (hq : ∀ kd p', r = .ok (kd, p') → idv (am_A k1 (ad 53) c) (am_A k1 (ad 54) (4 * c)) (am_A k1 (ad 54) (4 * c + 1)) (am_A k1 (ad 54) (4 * c + 2)) (am_A k1 (ad 55) c) = kd.1 ∧ (kd.1 = Int32.ofNat 1 → am_A k1 (ad 56) c + Int32.ofNat 1 = kd.2)) : am_Ev tt 185 206 [some (.ref m), some (.int a1), some (.int a2), some (.int (Int32.ofNat c)), none, none, none, none] [] k1 (am_pV Q Qx) := by
  have kk := y.1.1
  have dj := ad_ne y.1
  obtain ⟨b1, b2, b3⟩ := md_r y.1 (k := 52) (by decide) rfl (by decide)
  refine vc_185_206 tt _ _ _ _ _ _ _ ⟨kk, _, b1, kk, _, _, ct_ridOf y.1 hc, fun x k2 e => ?_, fun _ _ z => z.elim⟩
  obtain ⟨rfl, rfl⟩ := e
  simp (disch := omega) only [b2, b3, hc, qi_lt, qi_le, qi_eq, qi_nn, qi_in, qi_add, qi_l, ql_i, ql_lt, ql_le, ql_eq, ql_add, qc_lt, qc_eq, qc_ge, qc_gt, qc_le, true_and, and_true, and_self, true_or, or_true, false_or, or_false, false_and, and_false, not_true_eq_false, not_false_eq_true, Classical.not_not, true_implies, false_implies, implies_true, exists_eq_left, exists_eq_left', Option.some.injEq, reduceIte, Nat.reduceEqDiff, Nat.reduceLT, Nat.reduceLeDiff, Nat.reduceAdd, Nat.reduceSub, Nat.reduceMul, eq_self, ne_eq, and_imp, forall_const, reduceCtorEq, am_w, List.map_cons, List.map_nil, List.sum_cons, List.sum_nil, Value.category, Nat.zero_le, Nat.le_refl]
  have s1 : mg m ad Xco Yz k2 (am_sA k2 (ad 52) c (idv (am_A k2 (ad 53) c) (am_A k2 (ad 54) (4 * c)) (am_A k2 (ad 54) (4 * c + 1)) (am_A k2 (ad 54) (4 * c + 2)) (am_A k2 (ad 55) c))) := mg.sA y.1 (by omega)
  refine nx _ (y.on s1 (by omega) id id id id) (g.tr (s1.mo (fun _ z => z) (fun _ z => z.elim))) (fun kd p' e => ?_) (fun j hj => ?_)
  · obtain ⟨q1, q2⟩ := hq kd p' e
    simp (disch := omega) only [am_hs, dj, true_and, and_true, and_self, true_or, or_true, false_or, or_false, false_and, and_false, not_true_eq_false, not_false_eq_true, Classical.not_not, true_implies, false_implies, implies_true, exists_eq_left, exists_eq_left', Option.some.injEq, reduceIte, Nat.reduceEqDiff, Nat.reduceLT, Nat.reduceLeDiff, Nat.reduceAdd, Nat.reduceSub, Nat.reduceMul, eq_self, ne_eq, and_imp, forall_const, reduceCtorEq, am_w, List.map_cons, List.map_nil, List.sum_cons, List.sum_nil, Value.category, Nat.zero_le, Nat.le_refl]
    exact ⟨q1, q2⟩
  · have q : ¬ j = c := by omega
    simp (disch := omega) only [am_hs, dj, q, true_and, and_true, and_self, true_or, or_true, false_or, or_false, false_and, and_false, not_true_eq_false, not_false_eq_true, Classical.not_not, true_implies, false_implies, implies_true, exists_eq_left, exists_eq_left', Option.some.injEq, reduceIte, Nat.reduceEqDiff, Nat.reduceLT, Nat.reduceLeDiff, Nat.reduceAdd, Nat.reduceSub, Nat.reduceMul, eq_self, ne_eq, and_imp, forall_const, reduceCtorEq, am_w, List.map_cons, List.map_nil, List.sum_cons, List.sum_nil, Value.category, Nat.zero_le, Nat.le_refl]
    exact hp j hj
/-- on with a fault -/
theorem co_154b {c : Nat} (hc : c < 3) {a1 a2 i : Int32} {r : Except pe ((Int32 × Int32) × Nat)} {e : pe} (er : r = .error e) {Q : am_H → Prop} {Qx : String → am_H → Prop} (nx : coN tt F n m ad k c a1 a2 r (am_pV Q Qx)) {k1 : am_H} (y : MY F n k1 m ad (.error e)) (g : mg m ad Xco Yn k k1) (hp : kp c ad k k1) : am_Ev tt 185 154 [some (.ref m), some (.int a1), some (.int a2), some (.int (Int32.ofNat c)), none, none, some (.int i), none] [] k1 (am_pV Q Qx) := by
  have kk := y.1.1
  obtain ⟨b1, b2, b3⟩ := md_r y.1 (k := 55) (by decide) rfl (by decide)
  have l206 : am_Ev tt 185 206 [some (.ref m), some (.int a1), some (.int a2), some (.int (Int32.ofNat c)), none, none, none, none] [] k1 (am_pV Q Qx) := co_206 hc nx (by rw [er]; exact y) g hp (fun kd p' z => by rw [er] at z; cases z)
  refine vc_185_154 tt _ _ _ _ _ _ _ _ ?_
  simp (disch := omega) only [kk, b1, b2, b3, hc, qi_lt, qi_le, qi_eq, qi_nn, qi_in, qi_add, qi_l, ql_i, ql_lt, ql_le, ql_eq, ql_add, qc_lt, qc_eq, qc_ge, qc_gt, qc_le, true_and, and_true, and_self, true_or, or_true, false_or, or_false, false_and, and_false, not_true_eq_false, not_false_eq_true, Classical.not_not, true_implies, false_implies, implies_true, exists_eq_left, exists_eq_left', Option.some.injEq, reduceIte, Nat.reduceEqDiff, Nat.reduceLT, Nat.reduceLeDiff, Nat.reduceAdd, Nat.reduceSub, Nat.reduceMul, eq_self, ne_eq, and_imp, forall_const, reduceCtorEq, am_w, List.map_cons, List.map_nil, List.sum_cons, List.sum_nil, Value.category, Nat.zero_le, Nat.le_refl]
  refine ⟨fun _ => l206, fun _ => ⟨_, _, ct_mfine y, fun x k2 e2 => ?_, fun _ _ z => z.elim⟩⟩
  obtain ⟨rfl, rfl⟩ := e2
  exact ⟨fun _ => l206, fun z => absurd rfl z⟩
theorem co_118b {c : Nat} (hc : c < 3) {a1 a2 a5 : Int32} {r : Except pe ((Int32 × Int32) × Nat)} {e : pe} (er : r = .error e) {Q : am_H → Prop} {Qx : String → am_H → Prop} (nx : coN tt F n m ad k c a1 a2 r (am_pV Q Qx)) {k1 : am_H} (y : MY F n k1 m ad (.error e)) (g : mg m ad Xco Yn k k1) (hp : kp c ad k k1) : am_Ev tt 185 118 [some (.ref m), some (.int a1), some (.int a2), some (.int (Int32.ofNat c)), none, some (.int a5), none, none] [] k1 (am_pV Q Qx) := by
  have kk := y.1.1
  have dj := ad_ne y.1
  obtain ⟨b1, b2, b3⟩ := md_r y.1 (k := 55) (by decide) rfl (by decide)
  refine vc_185_118 tt _ _ _ _ _ _ _ _ ⟨kk, _, b1, kk, _, _, ct_mfine y, fun x k2 e2 => ?_, fun _ _ z => z.elim⟩
  obtain ⟨rfl, rfl⟩ := e2
  refine ⟨fun _ => ?_, fun z => absurd rfl z⟩
  simp (disch := omega) only [b2, b3, hc, qi_lt, qi_le, qi_eq, qi_nn, qi_in, qi_add, qi_l, ql_i, ql_lt, ql_le, ql_eq, ql_add, qc_lt, qc_eq, qc_ge, qc_gt, qc_le, true_and, and_true, and_self, true_or, or_true, false_or, or_false, false_and, and_false, not_true_eq_false, not_false_eq_true, Classical.not_not, true_implies, false_implies, implies_true, exists_eq_left, exists_eq_left', Option.some.injEq, reduceIte, Nat.reduceEqDiff, Nat.reduceLT, Nat.reduceLeDiff, Nat.reduceAdd, Nat.reduceSub, Nat.reduceMul, eq_self, ne_eq, and_imp, forall_const, reduceCtorEq, am_w, List.map_cons, List.map_nil, List.sum_cons, List.sum_nil, Value.category, Nat.zero_le, Nat.le_refl]
  have s1 : mg m ad Xco Yz k2 (am_sA k2 (ad 55) c (Int32.ofNat 0)) := mg.sA y.1 (by omega)
  refine vc_185_151 tt _ _ _ _ _ _ _ (co_154b hc er nx (y.on s1 (by omega) id id id id) (g.tr (s1.mo (fun _ z => z) (fun _ z => z.elim))) (fun j hj => ?_))
  simp (disch := omega) only [am_hs, dj, true_and, and_true, and_self, true_or, or_true, false_or, or_false, false_and, and_false, not_true_eq_false, not_false_eq_true, Classical.not_not, true_implies, false_implies, implies_true, exists_eq_left, exists_eq_left', Option.some.injEq, reduceIte, Nat.reduceEqDiff, Nat.reduceLT, Nat.reduceLeDiff, Nat.reduceAdd, Nat.reduceSub, Nat.reduceMul, eq_self, ne_eq, and_imp, forall_const, reduceCtorEq, am_w, List.map_cons, List.map_nil, List.sum_cons, List.sum_nil, Value.category, Nat.zero_le, Nat.le_refl]
  exact hp j hj
theorem co_79b {c : Nat} (hc : c < 3) {a1 a2 a5 i : Int32} {r : Except pe ((Int32 × Int32) × Nat)} {e : pe} (er : r = .error e) {Q : am_H → Prop} {Qx : String → am_H → Prop} (nx : coN tt F n m ad k c a1 a2 r (am_pV Q Qx)) {k1 : am_H} (y : MY F n k1 m ad (.error e)) (g : mg m ad Xco Yn k k1) (hp : kp c ad k k1) : am_Ev tt 185 79 [some (.ref m), some (.int a1), some (.int a2), some (.int (Int32.ofNat c)), none, some (.int a5), some (.int i), none] [] k1 (am_pV Q Qx) := by
  have kk := y.1.1
  obtain ⟨b1, b2, b3⟩ := md_r y.1 (k := 53) (by decide) rfl (by decide)
  refine vc_185_79 tt _ _ _ _ _ _ _ _ _ ?_
  simp (disch := omega) only [kk, b1, b2, b3, hc, qi_lt, qi_le, qi_eq, qi_nn, qi_in, qi_add, qi_l, ql_i, ql_lt, ql_le, ql_eq, ql_add, qc_lt, qc_eq, qc_ge, qc_gt, qc_le, true_and, and_true, and_self, true_or, or_true, false_or, or_false, false_and, and_false, not_true_eq_false, not_false_eq_true, Classical.not_not, true_implies, false_implies, implies_true, exists_eq_left, exists_eq_left', Option.some.injEq, reduceIte, Nat.reduceEqDiff, Nat.reduceLT, Nat.reduceLeDiff, Nat.reduceAdd, Nat.reduceSub, Nat.reduceMul, eq_self, ne_eq, and_imp, forall_const, reduceCtorEq, am_w, List.map_cons, List.map_nil, List.sum_cons, List.sum_nil, Value.category, Nat.zero_le, Nat.le_refl]
  refine ⟨fun _ => co_118b hc er nx y g hp, fun _ => ⟨_, _, ct_mfine y, fun x k2 e2 => ?_, fun _ _ z => z.elim⟩⟩
  obtain ⟨rfl, rfl⟩ := e2
  exact ⟨fun _ => co_118b hc er nx y g hp, fun z => absurd rfl z⟩
theorem co_65b {c : Nat} (hc : c < 3) {a1 a2 a5 : Int32} {r : Except pe ((Int32 × Int32) × Nat)} {e : pe} (er : r = .error e) {Q : am_H → Prop} {Qx : String → am_H → Prop} (nx : coN tt F n m ad k c a1 a2 r (am_pV Q Qx)) {k1 : am_H} (y : MY F n k1 m ad (.error e)) (g : mg m ad Xco Yn k k1) (hp : kp c ad k k1) : am_Ev tt 185 65 [some (.ref m), some (.int a1), some (.int a2), some (.int (Int32.ofNat c)), none, some (.int a5), none, none] [] k1 (am_pV Q Qx) := by
  have kk := y.1.1
  have dj := ad_ne y.1
  obtain ⟨b1, b2, b3⟩ := md_r y.1 (k := 53) (by decide) rfl (by decide)
  refine vc_185_65 tt _ _ _ _ _ _ _ _ ?_
  simp (disch := omega) only [kk, b1, b2, b3, hc, qi_lt, qi_le, qi_eq, qi_nn, qi_in, qi_add, qi_l, ql_i, ql_lt, ql_le, ql_eq, ql_add, qc_lt, qc_eq, qc_ge, qc_gt, qc_le, true_and, and_true, and_self, true_or, or_true, false_or, or_false, false_and, and_false, not_true_eq_false, not_false_eq_true, Classical.not_not, true_implies, false_implies, implies_true, exists_eq_left, exists_eq_left', Option.some.injEq, reduceIte, Nat.reduceEqDiff, Nat.reduceLT, Nat.reduceLeDiff, Nat.reduceAdd, Nat.reduceSub, Nat.reduceMul, eq_self, ne_eq, and_imp, forall_const, reduceCtorEq, am_w, List.map_cons, List.map_nil, List.sum_cons, List.sum_nil, Value.category, Nat.zero_le, Nat.le_refl]
  have s1 : mg m ad Xco Yz k1 (am_sA k1 (ad 53) c (a5 &&& Int32.ofNat 7)) := mg.sA y.1 (by omega)
  refine co_79b hc er nx (y.on s1 (by omega) id id id id) (g.tr (s1.mo (fun _ z => z) (fun _ z => z.elim))) (fun j hj => ?_)
  simp (disch := omega) only [am_hs, dj, true_and, and_true, and_self, true_or, or_true, false_or, or_false, false_and, and_false, not_true_eq_false, not_false_eq_true, Classical.not_not, true_implies, false_implies, implies_true, exists_eq_left, exists_eq_left', Option.some.injEq, reduceIte, Nat.reduceEqDiff, Nat.reduceLT, Nat.reduceLeDiff, Nat.reduceAdd, Nat.reduceSub, Nat.reduceMul, eq_self, ne_eq, and_imp, forall_const, reduceCtorEq, am_w, List.map_cons, List.map_nil, List.sum_cons, List.sum_nil, Value.category, Nat.zero_le, Nat.le_refl]
  exact hp j hj
theorem kp.g {c : Nat} {k1 k2 : am_H} (hp : kp c ad k k1) (g : mg m ad Xn Y k1 k2) : kp c ad k k2 := fun j hj => by rw [(g.2.1 52 (fun z => z)).1, (g.2.1 56 (fun z => z)).1]; exact hp j hj
/-- the properties' bytes -/
theorem co_154 {c : Nat} (hc : c < 3) {a1 a2 : Int32} {r : Except pe ((Int32 × Int32) × Nat)} {Q : am_H → Prop} {Qx : String → am_H → Prop} (nx : coN tt F n m ad k c a1 a2 r (am_pV Q Qx)) {p3 K : Nat} (hK : K ≤ 4) {ib : Nat} {ix : Int32}
    (hr : r = bd (tK n p3 K) fun _ p4 => .ok ((kdF ib ix K, (F (p4 - 1) &&& Int32.ofNat 255) + Int32.ofNat 1), p4)) : ∀ (d i : Nat) (k1 : am_H), d + i = K → MY F n k1 m ad (.ok (p3 + i)) → mg m ad Xco Yn k k1 → kp c ad k k1 → am_A k1 (ad 55) c = Int32.ofNat K → idv (am_A k1 (ad 53) c) (am_A k1 (ad 54) (4 * c)) (am_A k1 (ad 54) (4 * c + 1)) (am_A k1 (ad 54) (4 * c + 2)) (Int32.ofNat K) = kdF ib ix K → (0 < i → am_A k1 (ad 56) c = F p3 &&& Int32.ofNat 255) → am_Ev tt 185 154 [some (.ref m), some (.int a1), some (.int a2), some (.int (Int32.ofNat c)), none, none, some (.int (Int32.ofNat i)), none] [] k1 (am_pV Q Qx) := by
  intro d
  induction d with
  | zero =>
    intro i k1 ei y g hp e55 ev e56
    have : i = K := by omega
    subst this
    have kk := y.1.1
    have pn := y.2.2.2.2.2 _ rfl
    obtain ⟨b1, b2, b3⟩ := md_r y.1 (k := 55) (by decide) rfl (by decide)
    have er : r = .ok ((kdF ib ix i, (F (p3 + i - 1) &&& Int32.ofNat 255) + Int32.ofNat 1), p3 + i) := by rw [hr, tK, if_pos pn]; rfl
    refine vc_185_154 tt _ _ _ _ _ _ _ _ ?_
    simp (disch := omega) only [kk, b1, b2, b3, e55, hc, qi_lt, qi_le, qi_eq, qi_nn, qi_in, qi_add, qi_l, ql_i, ql_lt, ql_le, ql_eq, ql_add, qc_lt, qc_eq, qc_ge, qc_gt, qc_le, true_and, and_true, and_self, true_or, or_true, false_or, or_false, false_and, and_false, not_true_eq_false, not_false_eq_true, Classical.not_not, true_implies, false_implies, implies_true, exists_eq_left, exists_eq_left', Option.some.injEq, reduceIte, Nat.reduceEqDiff, Nat.reduceLT, Nat.reduceLeDiff, Nat.reduceAdd, Nat.reduceSub, Nat.reduceMul, eq_self, ne_eq, and_imp, forall_const, reduceCtorEq, am_w, List.map_cons, List.map_nil, List.sum_cons, List.sum_nil, Value.category, Nat.zero_le, Nat.le_refl]
    refine co_206 hc nx (by rw [er]; exact y) g hp (fun kd p' z => ?_)
    rw [er] at z
    cases z
    refine ⟨by rw [e55]; exact ev, fun w => ?_⟩
    have w : kdF ib ix i = Int32.ofNat 1 := w
    have i1 : i = 1 := by
      rcases kdF_v (ib := ib) (id := ix) (pr := i) with q | q | q | q | q
      · rw [q] at w; exact absurd w (by decide)
      · rw [q] at w; exact absurd w (by decide)
      · rw [q] at w; exact absurd w (by decide)
      · rw [q] at w; exact absurd w (by decide)
      · exact q.2
    subst i1
    rw [e56 (by omega), Nat.add_sub_cancel]
  | succ d ih =>
    intro i k1 ei y g hp e55 ev e56
    have kk := y.1.1
    have pn := y.2.2.2.2.2 _ rfl
    obtain ⟨b1, b2, b3⟩ := md_r y.1 (k := 55) (by decide) rfl (by decide)
    have q1 : ¬ K ≤ i := by omega
    refine vc_185_154 tt _ _ _ _ _ _ _ _ ?_
    simp (disch := omega) only [kk, b1, b2, b3, e55, hc, q1, qi_lt, qi_le, qi_eq, qi_nn, qi_in, qi_add, qi_l, ql_i, ql_lt, ql_le, ql_eq, ql_add, qc_lt, qc_eq, qc_ge, qc_gt, qc_le, true_and, and_true, and_self, true_or, or_true, false_or, or_false, false_and, and_false, not_true_eq_false, not_false_eq_true, Classical.not_not, true_implies, false_implies, implies_true, exists_eq_left, exists_eq_left', Option.some.injEq, reduceIte, Nat.reduceEqDiff, Nat.reduceLT, Nat.reduceLeDiff, Nat.reduceAdd, Nat.reduceSub, Nat.reduceMul, eq_self, ne_eq, and_imp, forall_const, reduceCtorEq, am_w, List.map_cons, List.map_nil, List.sum_cons, List.sum_nil, Value.category, Nat.zero_le, Nat.le_refl]
    refine ⟨_, _, ct_mfine y, fun x k2 e2 => ?_, fun _ _ z => z.elim⟩
    obtain ⟨rfl, rfl⟩ := e2
    refine ⟨fun z => absurd z (show ¬ Int32.ofNat 1 = Int32.ofNat 0 by decide), fun _ => ⟨kk, _, _, ct_mtake y rfl, fun x k3 e3 => ?_, fun _ _ z => z.elim⟩⟩
    obtain ⟨y3, g3, v3⟩ := e3
    have k31 := y3.1.1
    have dj := ad_ne y3.1
    obtain ⟨c1, c2, c3⟩ := md_r y3.1 (k := 56) (by decide) rfl (by decide)
    have gg : mg m ad Xco Yn k k3 := g.tr ((g3.qn).mo (fun _ z => z.elim) (fun _ z => z))
    have hp3 := hp.g g3
    -- what is put
    have put : ∀ v : Int32, ((i = 0 → v = x) ∧ (¬ i = 0 → v = am_A k3 (ad 56) c)) → am_Ev tt 185 154 [some (.ref m), some (.int a1), some (.int a2), some (.int (Int32.ofNat c)), none, none, some (.int (Int32.ofNat (i + 1))), none] [] (am_sA k3 (ad 56) c v) (am_pV Q Qx) := by
      intro v hv
      have s1 : mg m ad Xco Yz k3 (am_sA k3 (ad 56) c v) := mg.sA y3.1 (by omega)
      have gs := gg.tr (s1.mo (fun _ z => z) (fun _ z => z.elim))
      have hps : kp c ad k (am_sA k3 (ad 56) c v) := fun j hj => by
        have q : ¬ j = c := by omega
        simp (disch := omega) only [am_hs, dj, q, true_and, and_true, and_self, true_or, or_true, false_or, or_false, false_and, and_false, not_true_eq_false, not_false_eq_true, Classical.not_not, true_implies, false_implies, implies_true, exists_eq_left, exists_eq_left', Option.some.injEq, reduceIte, Nat.reduceEqDiff, Nat.reduceLT, Nat.reduceLeDiff, Nat.reduceAdd, Nat.reduceSub, Nat.reduceMul, eq_self, ne_eq, and_imp, forall_const, reduceCtorEq, am_w, List.map_cons, List.map_nil, List.sum_cons, List.sum_nil, Value.category, Nat.zero_le, Nat.le_refl]
        exact hp3 j hj
      by_cases cn : p3 + i < n
      · have et : bs (Except.ok (p3 + i) : Ms) (tB F n) = .ok (F (p3 + i) &&& Int32.ofNat 255, p3 + i + 1) := by show tB F n (p3 + i) = _; rw [tB, if_pos cn]
        rw [et] at y3 v3
        refine ih (i + 1) _ (by omega) (MY.on (s := .ok (p3 + (i + 1))) y3 s1 (by omega) id id id id) gs hps ?_ ?_ (fun _ => ?_)
        · simp (disch := omega) only [am_hs, dj, true_and, and_true, and_self, true_or, or_true, false_or, or_false, false_and, and_false, not_true_eq_false, not_false_eq_true, Classical.not_not, true_implies, false_implies, implies_true, exists_eq_left, exists_eq_left', Option.some.injEq, reduceIte, Nat.reduceEqDiff, Nat.reduceLT, Nat.reduceLeDiff, Nat.reduceAdd, Nat.reduceSub, Nat.reduceMul, eq_self, ne_eq, and_imp, forall_const, reduceCtorEq, am_w, List.map_cons, List.map_nil, List.sum_cons, List.sum_nil, Value.category, Nat.zero_le, Nat.le_refl]; rw [(g3.2.1 55 (fun z => z)).1]; exact e55
        · simp (disch := omega) only [am_hs, dj, true_and, and_true, and_self, true_or, or_true, false_or, or_false, false_and, and_false, not_true_eq_false, not_false_eq_true, Classical.not_not, true_implies, false_implies, implies_true, exists_eq_left, exists_eq_left', Option.some.injEq, reduceIte, Nat.reduceEqDiff, Nat.reduceLT, Nat.reduceLeDiff, Nat.reduceAdd, Nat.reduceSub, Nat.reduceMul, eq_self, ne_eq, and_imp, forall_const, reduceCtorEq, am_w, List.map_cons, List.map_nil, List.sum_cons, List.sum_nil, Value.category, Nat.zero_le, Nat.le_refl]; rw [(g3.2.1 53 (fun z => z)).1, (g3.2.1 54 (fun z => z)).1]; exact ev
        · simp (disch := omega) only [am_hs, dj, true_and, and_true, and_self, true_or, or_true, false_or, or_false, false_and, and_false, not_true_eq_false, not_false_eq_true, Classical.not_not, true_implies, false_implies, implies_true, exists_eq_left, exists_eq_left', Option.some.injEq, reduceIte, Nat.reduceEqDiff, Nat.reduceLT, Nat.reduceLeDiff, Nat.reduceAdd, Nat.reduceSub, Nat.reduceMul, eq_self, ne_eq, and_imp, forall_const, reduceCtorEq, am_w, List.map_cons, List.map_nil, List.sum_cons, List.sum_nil, Value.category, Nat.zero_le, Nat.le_refl]
          by_cases c0 : i = 0
          · subst c0
            rw [hv.1 rfl, v3 _ _ rfl, Nat.add_zero]
          · rw [hv.2 c0, (g3.2.1 56 (fun z => z)).1]
            exact e56 (by omega)
      · have et : bs (Except.ok (p3 + i) : Ms) (tB F n) = .error (1, n) := by show tB F n (p3 + i) = _; rw [tB, if_neg cn]
        rw [et] at y3
        exact co_154b (e := (1, n)) hc (by rw [hr, tK, if_neg (by omega)]; rfl) nx (MY.on (s := .error (1, n)) y3 s1 (by omega) id id id id) gs hps
    simp (disch := omega) only [k31, c1, c2, c3, hc, qi_lt, qi_le, qi_eq, qi_nn, qi_in, qi_add, qi_l, ql_i, ql_lt, ql_le, ql_eq, ql_add, qc_lt, qc_eq, qc_ge, qc_gt, qc_le, true_and, and_true, and_self, true_or, or_true, false_or, or_false, false_and, and_false, not_true_eq_false, not_false_eq_true, Classical.not_not, true_implies, false_implies, implies_true, exists_eq_left, exists_eq_left', Option.some.injEq, reduceIte, Nat.reduceEqDiff, Nat.reduceLT, Nat.reduceLeDiff, Nat.reduceAdd, Nat.reduceSub, Nat.reduceMul, eq_self, ne_eq, and_imp, forall_const, reduceCtorEq, am_w, List.map_cons, List.map_nil, List.sum_cons, List.sum_nil, Value.category, Nat.zero_le, Nat.le_refl]
    refine ⟨fun z => put _ ⟨fun w => absurd w z, fun _ => rfl⟩, fun z => put _ ⟨fun _ => rfl, fun w => absurd z w⟩⟩
/-- its properties -/
theorem co_118 {c : Nat} (hc : c < 3) {a1 a2 : Int32} {r : Except pe ((Int32 × Int32) × Nat)} {Q : am_H → Prop} {Qx : String → am_H → Prop} (nx : coN tt F n m ad k c a1 a2 r (am_pV Q Qx)) {p2 ib v : Nat} {ix : Int32} (hv : v < 256) (hw : (Int32.ofNat v &&& Int32.ofNat 32 = Int32.ofNat 0) ↔ Int32.ofNat v = (Int32.ofNat v &&& (-33 : Int32)))
    (hr : r = if Int32.ofNat v = (Int32.ofNat v &&& (-33 : Int32)) then .ok ((kdF ib ix 0, Int32.ofNat 1), p2) else bd (tN F n p2 (l64 1) (l64 4)) fun k p3 => bd (tK n p3 k.toNatClampNeg) fun _ p4 => .ok ((kdF ib ix k.toNatClampNeg, (F (p4 - 1) &&& Int32.ofNat 255) + Int32.ofNat 1), p4))
    {k1 : am_H} (y : MY F n k1 m ad (.ok p2)) (g : mg m ad Xco Yn k k1) (hp : kp c ad k k1) (ev : ∀ K, K ≤ 4 → idv (am_A k1 (ad 53) c) (am_A k1 (ad 54) (4 * c)) (am_A k1 (ad 54) (4 * c + 1)) (am_A k1 (ad 54) (4 * c + 2)) (Int32.ofNat K) = kdF ib ix K) : am_Ev tt 185 118 [some (.ref m), some (.int a1), some (.int a2), some (.int (Int32.ofNat c)), none, some (.int (Int32.ofNat v)), none, none] [] k1 (am_pV Q Qx) := by
  have kk := y.1.1
  have dj := ad_ne y.1
  obtain ⟨b1, b2, b3⟩ := md_r y.1 (k := 55) (by decide) rfl (by decide)
  refine vc_185_118 tt _ _ _ _ _ _ _ _ ⟨kk, _, b1, kk, _, _, ct_mfine y, fun x k2 e2 => ?_, fun _ _ z => z.elim⟩
  obtain ⟨rfl, rfl⟩ := e2
  refine ⟨fun z => absurd z (show ¬ Int32.ofNat 1 = Int32.ofNat 0 by decide), fun _ => ⟨fun z => ?_, fun z => ?_⟩⟩
  · rw [if_pos (hw.1 z)] at hr
    simp (disch := omega) only [b2, b3, hc, qi_lt, qi_le, qi_eq, qi_nn, qi_in, qi_add, qi_l, ql_i, ql_lt, ql_le, ql_eq, ql_add, qc_lt, qc_eq, qc_ge, qc_gt, qc_le, true_and, and_true, and_self, true_or, or_true, false_or, or_false, false_and, and_false, not_true_eq_false, not_false_eq_true, Classical.not_not, true_implies, false_implies, implies_true, exists_eq_left, exists_eq_left', Option.some.injEq, reduceIte, Nat.reduceEqDiff, Nat.reduceLT, Nat.reduceLeDiff, Nat.reduceAdd, Nat.reduceSub, Nat.reduceMul, eq_self, ne_eq, and_imp, forall_const, reduceCtorEq, am_w, List.map_cons, List.map_nil, List.sum_cons, List.sum_nil, Value.category, Nat.zero_le, Nat.le_refl]
    have s1 : mg m ad Xco Yz k2 (am_sA k2 (ad 55) c (Int32.ofNat 0)) := mg.sA y.1 (by omega)
    have y2 := y.on s1 (by omega) id id id id
    have kk2 := y2.1.1
    obtain ⟨d1, d2, d3⟩ := md_r y2.1 (k := 55) (by decide) rfl (by decide)
    refine vc_185_151 tt _ _ _ _ _ _ _ (vc_185_154 tt _ _ _ _ _ _ _ _ ?_)
    have e55 : am_A (am_sA k2 (ad 55) c (Int32.ofNat 0)) (ad 55) c = Int32.ofNat 0 := by simp only [am_hs, true_and, and_true, and_self, true_or, or_true, false_or, or_false, false_and, and_false, not_true_eq_false, not_false_eq_true, Classical.not_not, true_implies, false_implies, implies_true, exists_eq_left, exists_eq_left', Option.some.injEq, reduceIte, Nat.reduceEqDiff, Nat.reduceLT, Nat.reduceLeDiff, Nat.reduceAdd, Nat.reduceSub, Nat.reduceMul, eq_self, ne_eq, and_imp, forall_const, reduceCtorEq, am_w, List.map_cons, List.map_nil, List.sum_cons, List.sum_nil, Value.category, Nat.zero_le, Nat.le_refl]
    simp (disch := omega) only [kk2, d1, d2, d3, e55, hc, qi_lt, qi_le, qi_eq, qi_nn, qi_in, qi_add, qi_l, ql_i, ql_lt, ql_le, ql_eq, ql_add, qc_lt, qc_eq, qc_ge, qc_gt, qc_le, true_and, and_true, and_self, true_or, or_true, false_or, or_false, false_and, and_false, not_true_eq_false, not_false_eq_true, Classical.not_not, true_implies, false_implies, implies_true, exists_eq_left, exists_eq_left', Option.some.injEq, reduceIte, Nat.reduceEqDiff, Nat.reduceLT, Nat.reduceLeDiff, Nat.reduceAdd, Nat.reduceSub, Nat.reduceMul, eq_self, ne_eq, and_imp, forall_const, reduceCtorEq, am_w, List.map_cons, List.map_nil, List.sum_cons, List.sum_nil, Value.category, Nat.zero_le, Nat.le_refl]
    refine co_206 hc nx (by rw [hr]; exact y2) (g.tr (s1.mo (fun _ z => z) (fun _ z => z.elim))) (fun j hj => ?_) (fun kd p' w => ?_)
    · simp (disch := omega) only [am_hs, dj, true_and, and_true, and_self, true_or, or_true, false_or, or_false, false_and, and_false, not_true_eq_false, not_false_eq_true, Classical.not_not, true_implies, false_implies, implies_true, exists_eq_left, exists_eq_left', Option.some.injEq, reduceIte, Nat.reduceEqDiff, Nat.reduceLT, Nat.reduceLeDiff, Nat.reduceAdd, Nat.reduceSub, Nat.reduceMul, eq_self, ne_eq, and_imp, forall_const, reduceCtorEq, am_w, List.map_cons, List.map_nil, List.sum_cons, List.sum_nil, Value.category, Nat.zero_le, Nat.le_refl]
      exact hp j hj
    · rw [hr] at w
      cases w
      refine ⟨?_, fun w => ?_⟩
      · simp (disch := omega) only [am_hs, dj, true_and, and_true, and_self, true_or, or_true, false_or, or_false, false_and, and_false, not_true_eq_false, not_false_eq_true, Classical.not_not, true_implies, false_implies, implies_true, exists_eq_left, exists_eq_left', Option.some.injEq, reduceIte, Nat.reduceEqDiff, Nat.reduceLT, Nat.reduceLeDiff, Nat.reduceAdd, Nat.reduceSub, Nat.reduceMul, eq_self, ne_eq, and_imp, forall_const, reduceCtorEq, am_w, List.map_cons, List.map_nil, List.sum_cons, List.sum_nil, Value.category, Nat.zero_le, Nat.le_refl]
        exact ev 0 (by omega)
      · rcases kdF_v (ib := ib) (id := ix) (pr := 0) with q | q | q | q | q
        · rw [q] at w; exact absurd w (by decide)
        · rw [q] at w; exact absurd w (by decide)
        · rw [q] at w; exact absurd w (by decide)
        · rw [q] at w; exact absurd w (by decide)
        · exact absurd q.2 (by omega)
  · rw [if_neg (fun w => z (hw.2 w))] at hr
    refine ⟨kk, _, _, ct_rnumberIn y (l := l64 1) (u := l64 4) (by decide) rfl, fun x k3 e => ?_, fun _ _ z => z.elim⟩
    obtain ⟨y3, g3, v3, v3e, _⟩ := e
    have y3 : MY F n k3 m ad (st (tN F n p2 (l64 1) (l64 4))) := y3
    have v3 : ∀ a p', tN F n p2 (l64 1) (l64 4) = .ok (a, p') → x = a.toInt32 := v3
    have dj3 := ad_ne y3.1
    have gg : mg m ad Xco Yn k k3 := g.tr (g3.mo (fun _ z => z.elim) (fun _ z => z))
    obtain ⟨d1, d2, d3⟩ := md_r y3.1 (k := 55) (by decide) rfl (by decide)
    simp (disch := omega) only [d2, d3, hc, qi_lt, qi_le, qi_eq, qi_nn, qi_in, qi_add, qi_l, ql_i, ql_lt, ql_le, ql_eq, ql_add, qc_lt, qc_eq, qc_ge, qc_gt, qc_le, true_and, and_true, and_self, true_or, or_true, false_or, or_false, false_and, and_false, not_true_eq_false, not_false_eq_true, Classical.not_not, true_implies, false_implies, implies_true, exists_eq_left, exists_eq_left', Option.some.injEq, reduceIte, Nat.reduceEqDiff, Nat.reduceLT, Nat.reduceLeDiff, Nat.reduceAdd, Nat.reduceSub, Nat.reduceMul, eq_self, ne_eq, and_imp, forall_const, reduceCtorEq, am_w, List.map_cons, List.map_nil, List.sum_cons, List.sum_nil, Value.category, Nat.zero_le, Nat.le_refl]
    have s1 : mg m ad Xco Yz k3 (am_sA k3 (ad 55) c x) := mg.sA y3.1 (by omega)
    have y4 := y3.on s1 (by omega) id id id id
    have gs := gg.tr (s1.mo (fun _ z => z) (fun _ z => z.elim))
    have hps : kp c ad k (am_sA k3 (ad 55) c x) := fun j hj => by
      simp (disch := omega) only [am_hs, dj3, true_and, and_true, and_self, true_or, or_true, false_or, or_false, false_and, and_false, not_true_eq_false, not_false_eq_true, Classical.not_not, true_implies, false_implies, implies_true, exists_eq_left, exists_eq_left', Option.some.injEq, reduceIte, Nat.reduceEqDiff, Nat.reduceLT, Nat.reduceLeDiff, Nat.reduceAdd, Nat.reduceSub, Nat.reduceMul, eq_self, ne_eq, and_imp, forall_const, reduceCtorEq, am_w, List.map_cons, List.map_nil, List.sum_cons, List.sum_nil, Value.category, Nat.zero_le, Nat.le_refl]
      exact hp.g g3 j hj
    refine vc_185_151 tt _ _ _ _ _ _ _ ?_
    cases e1 : tN F n p2 (l64 1) (l64 4) with
    | error e =>
      rw [e1] at y4 hr
      exact co_154b (e := e) hc hr nx y4 gs hps
    | ok a =>
      obtain ⟨a, p3⟩ := a
      obtain ⟨K, rfl, q1, q2, _⟩ := tN_n (by omega) (by omega) e1
      have ex := v3 _ _ e1
      rw [e1] at y4 hr
      have c1 : (Int64.ofNat K).toNatClampNeg = K := Int64.toNatClampNeg_ofNat_of_lt (by omega)
      have hr : r = bd (tK n p3 (Int64.ofNat K).toNatClampNeg) fun _ p4 => .ok ((kdF ib ix (Int64.ofNat K).toNatClampNeg, (F (p4 - 1) &&& Int32.ofNat 255) + Int32.ofNat 1), p4) := hr
      rw [c1] at hr
      refine co_154 hc nx q2 hr K 0 _ (by omega) y4 gs hps ?_ ?_ (fun z => absurd z (by omega))
      · simp only [am_hs, true_and, and_true, and_self, true_or, or_true, false_or, or_false, false_and, and_false, not_true_eq_false, not_false_eq_true, Classical.not_not, true_implies, false_implies, implies_true, exists_eq_left, exists_eq_left', Option.some.injEq, reduceIte, Nat.reduceEqDiff, Nat.reduceLT, Nat.reduceLeDiff, Nat.reduceAdd, Nat.reduceSub, Nat.reduceMul, eq_self, ne_eq, and_imp, forall_const, reduceCtorEq, am_w, List.map_cons, List.map_nil, List.sum_cons, List.sum_nil, Value.category, Nat.zero_le, Nat.le_refl]
        rw [ex]; exact ql_i
      · simp (disch := omega) only [am_hs, dj3, true_and, and_true, and_self, true_or, or_true, false_or, or_false, false_and, and_false, not_true_eq_false, not_false_eq_true, Classical.not_not, true_implies, false_implies, implies_true, exists_eq_left, exists_eq_left', Option.some.injEq, reduceIte, Nat.reduceEqDiff, Nat.reduceLT, Nat.reduceLeDiff, Nat.reduceAdd, Nat.reduceSub, Nat.reduceMul, eq_self, ne_eq, and_imp, forall_const, reduceCtorEq, am_w, List.map_cons, List.map_nil, List.sum_cons, List.sum_nil, Value.category, Nat.zero_le, Nat.le_refl]
        rw [(g3.2.1 53 (fun z => z)).1, (g3.2.1 54 (fun z => z)).1]
        exact ev K q2
/-- its id's bytes -/
theorem co_79 {c : Nat} (hc : c < 3) {a1 a2 : Int32} {r : Except pe ((Int32 × Int32) × Nat)} {Q : am_H → Prop} {Qx : String → am_H → Prop} (nx : coN tt F n m ad k c a1 a2 r (am_pV Q Qx)) {p1 ib v : Nat} (hv : v < 256) (hw : (Int32.ofNat v &&& Int32.ofNat 32 = Int32.ofNat 0) ↔ Int32.ofNat v = (Int32.ofNat v &&& (-33 : Int32))) (i1 : 1 ≤ ib) (i4 : ib ≤ 4)
    (hr : r = bd (tK n p1 ib) fun _ p2 => if Int32.ofNat v = (Int32.ofNat v &&& (-33 : Int32)) then .ok ((kdF ib (idn F p1 ib) 0, Int32.ofNat 1), p2) else bd (tN F n p2 (l64 1) (l64 4)) fun k p3 => bd (tK n p3 k.toNatClampNeg) fun _ p4 => .ok ((kdF ib (idn F p1 ib) k.toNatClampNeg, (F (p4 - 1) &&& Int32.ofNat 255) + Int32.ofNat 1), p4)) :
    ∀ (d i : Nat) (k1 : am_H), d + i = ib → MY F n k1 m ad (.ok (p1 + i)) → mg m ad Xco Yn k k1 → kp c ad k k1 → am_A k1 (ad 53) c = Int32.ofNat ib → (∀ t, t < i → am_A k1 (ad 54) (4 * c + t) = F (p1 + t) &&& Int32.ofNat 255) → am_Ev tt 185 79 [some (.ref m), some (.int a1), some (.int a2), some (.int (Int32.ofNat c)), none, some (.int (Int32.ofNat v)), some (.int (Int32.ofNat i)), none] [] k1 (am_pV Q Qx) := by
  intro d
  induction d with
  | zero =>
    intro i k1 ei y g hp e53 e54
    have : i = ib := by omega
    subst this
    have kk := y.1.1
    have pn := y.2.2.2.2.2 _ rfl
    obtain ⟨b1, b2, b3⟩ := md_r y.1 (k := 53) (by decide) rfl (by decide)
    rw [tK, if_pos pn] at hr
    refine vc_185_79 tt _ _ _ _ _ _ _ _ _ ?_
    simp (disch := omega) only [kk, b1, b2, b3, e53, hc, qi_lt, qi_le, qi_eq, qi_nn, qi_in, qi_add, qi_l, ql_i, ql_lt, ql_le, ql_eq, ql_add, qc_lt, qc_eq, qc_ge, qc_gt, qc_le, true_and, and_true, and_self, true_or, or_true, false_or, or_false, false_and, and_false, not_true_eq_false, not_false_eq_true, Classical.not_not, true_implies, false_implies, implies_true, exists_eq_left, exists_eq_left', Option.some.injEq, reduceIte, Nat.reduceEqDiff, Nat.reduceLT, Nat.reduceLeDiff, Nat.reduceAdd, Nat.reduceSub, Nat.reduceMul, eq_self, ne_eq, and_imp, forall_const, reduceCtorEq, am_w, List.map_cons, List.map_nil, List.sum_cons, List.sum_nil, Value.category, Nat.zero_le, Nat.le_refl]
    exact co_118 hc nx hv hw hr y g hp (fun K hK => by rw [e53]; exact idv_k i1 i4 hK (e54 0 (by omega)) (fun z => e54 1 z) (fun z => e54 2 z))
  | succ d ih =>
    intro i k1 ei y g hp e53 e54
    have kk := y.1.1
    have pn := y.2.2.2.2.2 _ rfl
    obtain ⟨b1, b2, b3⟩ := md_r y.1 (k := 53) (by decide) rfl (by decide)
    obtain ⟨d1, d2, d3⟩ := md_r y.1 (k := 54) (by decide) rfl (by decide)
    have q1 : ¬ ib ≤ i := by omega
    refine vc_185_79 tt _ _ _ _ _ _ _ _ _ ?_
    simp (disch := omega) only [kk, b1, b2, b3, e53, hc, q1, qi_lt, qi_le, qi_eq, qi_nn, qi_in, qi_add, qi_l, ql_i, ql_lt, ql_le, ql_eq, ql_add, qc_lt, qc_eq, qc_ge, qc_gt, qc_le, true_and, and_true, and_self, true_or, or_true, false_or, or_false, false_and, and_false, not_true_eq_false, not_false_eq_true, Classical.not_not, true_implies, false_implies, implies_true, exists_eq_left, exists_eq_left', Option.some.injEq, reduceIte, Nat.reduceEqDiff, Nat.reduceLT, Nat.reduceLeDiff, Nat.reduceAdd, Nat.reduceSub, Nat.reduceMul, eq_self, ne_eq, and_imp, forall_const, reduceCtorEq, am_w, List.map_cons, List.map_nil, List.sum_cons, List.sum_nil, Value.category, Nat.zero_le, Nat.le_refl]
    refine ⟨_, _, ct_mfine y, fun x k2 e2 => ?_, fun _ _ z => z.elim⟩
    obtain ⟨rfl, rfl⟩ := e2
    refine ⟨fun z => absurd z (show ¬ Int32.ofNat 1 = Int32.ofNat 0 by decide), fun _ => ⟨kk, _, d1, kk, _, _, ct_mtake y rfl, fun x k3 e3 => ?_, fun _ _ z => z.elim⟩⟩
    obtain ⟨y3, g3, v3⟩ := e3
    have dj := ad_ne y3.1
    obtain ⟨c1, c2, c3⟩ := md_r y3.1 (k := 54) (by decide) rfl (by decide)
    have gg : mg m ad Xco Yn k k3 := g.tr ((g3.qn).mo (fun _ z => z.elim) (fun _ z => z))
    have hp3 := hp.g g3
    have i12 : 4 * c + i < 12 := by omega
    simp (disch := omega) only [c2, c3, i12, qi_mul, qi_lt, qi_le, qi_eq, qi_nn, qi_in, qi_add, qi_l, ql_i, ql_lt, ql_le, ql_eq, ql_add, qc_lt, qc_eq, qc_ge, qc_gt, qc_le, true_and, and_true, and_self, true_or, or_true, false_or, or_false, false_and, and_false, not_true_eq_false, not_false_eq_true, Classical.not_not, true_implies, false_implies, implies_true, exists_eq_left, exists_eq_left', Option.some.injEq, reduceIte, Nat.reduceEqDiff, Nat.reduceLT, Nat.reduceLeDiff, Nat.reduceAdd, Nat.reduceSub, Nat.reduceMul, eq_self, ne_eq, and_imp, forall_const, reduceCtorEq, am_w, List.map_cons, List.map_nil, List.sum_cons, List.sum_nil, Value.category, Nat.zero_le, Nat.le_refl]
    have s1 : mg m ad Xco Yz k3 (am_sA k3 (ad 54) (4 * c + i) x) := mg.sA y3.1 (by omega)
    have gs := gg.tr (s1.mo (fun _ z => z) (fun _ z => z.elim))
    have hps : kp c ad k (am_sA k3 (ad 54) (4 * c + i) x) := fun j hj => by
      simp (disch := omega) only [am_hs, dj, true_and, and_true, and_self, true_or, or_true, false_or, or_false, false_and, and_false, not_true_eq_false, not_false_eq_true, Classical.not_not, true_implies, false_implies, implies_true, exists_eq_left, exists_eq_left', Option.some.injEq, reduceIte, Nat.reduceEqDiff, Nat.reduceLT, Nat.reduceLeDiff, Nat.reduceAdd, Nat.reduceSub, Nat.reduceMul, eq_self, ne_eq, and_imp, forall_const, reduceCtorEq, am_w, List.map_cons, List.map_nil, List.sum_cons, List.sum_nil, Value.category, Nat.zero_le, Nat.le_refl]
      exact hp3 j hj
    by_cases cn : p1 + i < n
    · have et : bs (Except.ok (p1 + i) : Ms) (tB F n) = .ok (F (p1 + i) &&& Int32.ofNat 255, p1 + i + 1) := by show tB F n (p1 + i) = _; rw [tB, if_pos cn]
      rw [et] at y3 v3
      refine ih (i + 1) _ (by omega) (MY.on (s := .ok (p1 + (i + 1))) y3 s1 (by omega) id id id id) gs hps ?_ (fun t ht => ?_)
      · simp (disch := omega) only [am_hs, dj, true_and, and_true, and_self, true_or, or_true, false_or, or_false, false_and, and_false, not_true_eq_false, not_false_eq_true, Classical.not_not, true_implies, false_implies, implies_true, exists_eq_left, exists_eq_left', Option.some.injEq, reduceIte, Nat.reduceEqDiff, Nat.reduceLT, Nat.reduceLeDiff, Nat.reduceAdd, Nat.reduceSub, Nat.reduceMul, eq_self, ne_eq, and_imp, forall_const, reduceCtorEq, am_w, List.map_cons, List.map_nil, List.sum_cons, List.sum_nil, Value.category, Nat.zero_le, Nat.le_refl]; rw [(g3.2.1 53 (fun z => z)).1]; exact e53
      · by_cases ct : t = i
        · subst ct
          simp (disch := omega) only [am_hs, dj, true_and, and_true, and_self, true_or, or_true, false_or, or_false, false_and, and_false, not_true_eq_false, not_false_eq_true, Classical.not_not, true_implies, false_implies, implies_true, exists_eq_left, exists_eq_left', Option.some.injEq, reduceIte, Nat.reduceEqDiff, Nat.reduceLT, Nat.reduceLeDiff, Nat.reduceAdd, Nat.reduceSub, Nat.reduceMul, eq_self, ne_eq, and_imp, forall_const, reduceCtorEq, am_w, List.map_cons, List.map_nil, List.sum_cons, List.sum_nil, Value.category, Nat.zero_le, Nat.le_refl]
          exact v3 _ _ rfl
        · have q : ¬ 4 * c + t = 4 * c + i := by omega
          simp (disch := omega) only [am_hs, dj, q, true_and, and_true, and_self, true_or, or_true, false_or, or_false, false_and, and_false, not_true_eq_false, not_false_eq_true, Classical.not_not, true_implies, false_implies, implies_true, exists_eq_left, exists_eq_left', Option.some.injEq, reduceIte, Nat.reduceEqDiff, Nat.reduceLT, Nat.reduceLeDiff, Nat.reduceAdd, Nat.reduceSub, Nat.reduceMul, eq_self, ne_eq, and_imp, forall_const, reduceCtorEq, am_w, List.map_cons, List.map_nil, List.sum_cons, List.sum_nil, Value.category, Nat.zero_le, Nat.le_refl]
          rw [(g3.2.1 54 (fun z => z)).1]
          exact e54 t (by omega)
    · have et : bs (Except.ok (p1 + i) : Ms) (tB F n) = .error (1, n) := by show tB F n (p1 + i) = _; rw [tB, if_neg cn]
      rw [et] at y3
      exact co_79b (e := (1, n)) hc (by rw [hr, tK, if_neg (by omega)]; rfl) nx (MY.on (s := .error (1, n)) y3 s1 (by omega) id id id id) gs hps
/-- a coder -/
theorem co_29 {c : Nat} (hc : c < 3) {a1 a2 : Int32} {p : Nat} {r : Except pe ((Int32 × Int32) × Nat)} (hr : r = pCo F n p) {Q : am_H → Prop} {Qx : String → am_H → Prop} (y : MY F n k m ad (.ok p)) (nx : coN tt F n m ad k c a1 a2 r (am_pV Q Qx)) : am_Ev tt 185 29 [some (.ref m), some (.int a1), some (.int a2), some (.int (Int32.ofNat c)), some (.int (Int32.ofNat p)), none, none, none] [] k (am_pV Q Qx) := by
  have kk := y.1.1
  refine vc_185_29 tt _ _ _ _ _ _ _ _ ⟨kk, _, _, ct_mtake y rfl, fun x k1 e => ?_, fun _ _ z => z.elim⟩
  obtain ⟨y1, g1, v1⟩ := e
  have y1 : MY F n k1 m ad (st (tB F n p)) := y1
  have v1 : ∀ a p', tB F n p = .ok (a, p') → x = a := v1
  have g1' : mg m ad Xco Yn k k1 := g1.qn.mo (fun _ z => z.elim) (fun _ z => z)
  have hp1 : kp c ad k k1 := kp.g (k1 := k) (fun j hj => ⟨rfl, rfl⟩) g1
  refine ⟨y1.1.1, _, _, ct_mfine y1, fun w k2 e => ?_, fun _ _ z => z.elim⟩
  obtain ⟨rfl, rfl⟩ := e
  rw [pCo] at hr
  by_cases cn : p < n
  · have et : tB F n p = .ok (F p &&& Int32.ofNat 255, p + 1) := by rw [tB, if_pos cn]
    rw [et] at y1 hr ⊢
    have ex := v1 _ _ et
    obtain ⟨v, hv, ev⟩ := a255 (F p)
    rw [ev] at ex hr
    subst ex
    have hr : r = if (Int32.ofNat v &&& (-33 : Int32)).toNatClampNeg < 1 ∨ 4 < (Int32.ofNat v &&& (-33 : Int32)).toNatClampNeg then .error (2, p) else bd (tK n (p + 1) (Int32.ofNat v &&& (-33 : Int32)).toNatClampNeg) fun _ p2 => if Int32.ofNat v = (Int32.ofNat v &&& (-33 : Int32)) then .ok ((kdF (Int32.ofNat v &&& (-33 : Int32)).toNatClampNeg (idn F (p + 1) (Int32.ofNat v &&& (-33 : Int32)).toNatClampNeg) 0, Int32.ofNat 1), p2) else bd (tN F n p2 (l64 1) (l64 4)) fun k p3 => bd (tK n p3 k.toNatClampNeg) fun _ p4 => .ok ((kdF (Int32.ofNat v &&& (-33 : Int32)).toNatClampNeg (idn F (p + 1) (Int32.ofNat v &&& (-33 : Int32)).toNatClampNeg) k.toNatClampNeg, (F (p4 - 1) &&& Int32.ofNat 255) + Int32.ofNat 1), p4) := hr
    refine ⟨fun z => absurd z (show ¬ Int32.ofNat 1 = Int32.ofNat 0 by decide), fun _ => ⟨_, _, ct_in, fun w2 k3 e => ?_, fun _ _ z => z.elim⟩⟩
    obtain ⟨rfl, rfl⟩ := e
    have f1 := cf1 v hv
    by_cases ci : (Int32.ofNat v &&& (-33 : Int32)).toNatClampNeg < 1 ∨ 4 < (Int32.ofNat v &&& (-33 : Int32)).toNatClampNeg
    · rw [if_pos ci] at hr
      rw [if_neg (fun z => f1.1 z ci)]
      refine ⟨fun z => absurd rfl z, fun _ => ⟨y1.1.1, _, _, ct_mfails y1 (f := 2) (pl := p) (by omega) (by omega), fun k4 w4 => ?_, fun _ _ z => z.elim⟩⟩
      exact co_65b (e := (2, p)) hc hr nx w4.1 (g1'.tr (w4.2.qn.mo (fun _ z => z.elim) (fun _ z => z))) (hp1.g w4.2)
    · rw [if_neg ci] at hr
      rw [if_pos (f1.2 ci)]
      refine ⟨fun _ => ?_, fun z => absurd (show ¬ Int32.ofNat 1 = Int32.ofNat 0 by decide) z⟩
      obtain ⟨f2, f3⟩ := cf2 v hv ci
      have y1 : MY F n k3 m ad (.ok (p + 1)) := y1
      have kk3 := y1.1.1
      have dj := ad_ne y1.1
      obtain ⟨b1, b2, b3⟩ := md_r y1.1 (k := 53) (by decide) rfl (by decide)
      refine vc_185_65 tt _ _ _ _ _ _ _ _ ?_
      simp (disch := omega) only [kk3, b1, b2, b3, hc, qi_lt, qi_le, qi_eq, qi_nn, qi_in, qi_add, qi_l, ql_i, ql_lt, ql_le, ql_eq, ql_add, qc_lt, qc_eq, qc_ge, qc_gt, qc_le, true_and, and_true, and_self, true_or, or_true, false_or, or_false, false_and, and_false, not_true_eq_false, not_false_eq_true, Classical.not_not, true_implies, false_implies, implies_true, exists_eq_left, exists_eq_left', Option.some.injEq, reduceIte, Nat.reduceEqDiff, Nat.reduceLT, Nat.reduceLeDiff, Nat.reduceAdd, Nat.reduceSub, Nat.reduceMul, eq_self, ne_eq, and_imp, forall_const, reduceCtorEq, am_w, List.map_cons, List.map_nil, List.sum_cons, List.sum_nil, Value.category, Nat.zero_le, Nat.le_refl]
      have s1 : mg m ad Xco Yz k3 (am_sA k3 (ad 53) c (Int32.ofNat v &&& Int32.ofNat 7)) := mg.sA y1.1 (by omega)
      have gs := g1'.tr (s1.mo (fun _ z => z) (fun _ z => z.elim))
      have hps : kp c ad k (am_sA k3 (ad 53) c (Int32.ofNat v &&& Int32.ofNat 7)) := fun j hj => by
        simp (disch := omega) only [am_hs, dj, true_and, and_true, and_self, true_or, or_true, false_or, or_false, false_and, and_false, not_true_eq_false, not_false_eq_true, Classical.not_not, true_implies, false_implies, implies_true, exists_eq_left, exists_eq_left', Option.some.injEq, reduceIte, Nat.reduceEqDiff, Nat.reduceLT, Nat.reduceLeDiff, Nat.reduceAdd, Nat.reduceSub, Nat.reduceMul, eq_self, ne_eq, and_imp, forall_const, reduceCtorEq, am_w, List.map_cons, List.map_nil, List.sum_cons, List.sum_nil, Value.category, Nat.zero_le, Nat.le_refl]
        exact hp1 j hj
      refine co_79 hc nx hv f3 (by omega) (by omega) hr _ 0 _ rfl (MY.on (s := .ok (p + 1)) y1 s1 (by omega) id id id id) gs hps ?_ (fun t ht => absurd ht (by omega))
      simp only [am_hs, true_and, and_true, and_self, true_or, or_true, false_or, or_false, false_and, and_false, not_true_eq_false, not_false_eq_true, Classical.not_not, true_implies, false_implies, implies_true, exists_eq_left, exists_eq_left', Option.some.injEq, reduceIte, Nat.reduceEqDiff, Nat.reduceLT, Nat.reduceLeDiff, Nat.reduceAdd, Nat.reduceSub, Nat.reduceMul, eq_self, ne_eq, and_imp, forall_const, reduceCtorEq, am_w, List.map_cons, List.map_nil, List.sum_cons, List.sum_nil, Value.category, Nat.zero_le, Nat.le_refl]
      exact f2
  · have et : tB F n p = .error (1, n) := by rw [tB, if_neg cn]
    rw [et] at y1 hr ⊢
    refine ⟨fun _ => ?_, fun z => absurd rfl z⟩
    exact co_65b (e := (1, n)) hc hr nx y1 g1' hp1
end MCO
