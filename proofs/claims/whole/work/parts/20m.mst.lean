/-! deps: 20l -/
/-! ===== the reference reads: STREAMS, from the end on ===== -/
/-! 189 yX10_streams -/
theorem vc_189_0 (tt : Nat → Nat) (a0 : Nat) (a1 : Int32) (h : am_H) (Q : am_H → Prop) (Qx : String → am_H → Prop) (q :
  (am_K h a0 = 11 ∧ ∃ (Q2 : am_H → Prop) (X2 : String → am_H → Prop), am_Ct tt 180 [.ref a0, .int (Int32.ofNat 4)] h (am_pV Q2 X2) ∧ (∀ h1, Q2 h1 →
   (am_K h1 a0 = 11 ∧ ∃ (Q4 : am_H → Prop) (X4 : String → am_H → Prop), am_Ct tt 180 [.ref a0, .int (Int32.ofNat 6)] h1 (am_pV Q4 X4) ∧ (∀ h3, Q4 h3 →
    (am_K h3 a0 = 11 ∧ ∃ (Q6 : Int32 → am_H → Prop) (X6 : String → am_H → Prop), am_Ct tt 182 [.ref a0, .long (Int64.ofNat 0), .long (Int64.ofNat 0)] h3 (am_pI Q6 X6) ∧ (∀ x7 h5, Q6 x7 h5 →
     (am_K h5 a0 = 11 ∧ ∃ (Q9 : Int32 → am_H → Prop) (X9 : String → am_H → Prop), am_Ct tt 182 [.ref a0, .long (Int64.ofNat 1), .long (Int64.ofNat 6)] h5 (am_pI Q9 X9) ∧ (∀ x10 h8, Q9 x10 h8 →
      (am_K h8 a0 = 11 ∧
      (am_K h8 a0 = 11 ∧ ∃ (Q12 : am_H → Prop) (X12 : String → am_H → Prop), am_Ct tt 180 [.ref a0, .int (Int32.ofNat 9)] (am_sI h8 10 30 a0 x10) (am_pV Q12 X12) ∧ (∀ h11, Q12 h11 →
       am_Ev tt 189 36 [some (.ref a0), some (.int a1), none, none, none, none, none, none] [] h11 (am_pV Q Qx)) ∧ (∀ E13 h11, X12 E13 h11 → Qx E13 h11)))) ∧ (∀ E14 h8, X9 E14 h8 → Qx E14 h8))) ∧ (∀ E15 h5, X6 E15 h5 → Qx E15 h5))) ∧ (∀ E16 h3, X4 E16 h3 → Qx E16 h3))) ∧ (∀ E17 h1, X2 E17 h1 → Qx E17 h1))) :
  am_Ev tt 189 0 [some (.ref a0), some (.int a1), none, none, none, none, none, none] [] h (am_pV Q Qx) := am_vc 23 [(36, [true, true, false, false, false, false, false, false]), (41, [true, true, false, true, true, false, false, false]), (88, [true, true, false, true, false, false, false, false]), (109, [true, false, false, false, false, false, false, false]), (147, [true, false, false, false, false, false, false, false]), (150, [true, false, false, false, false, true, false, false]), (178, [true, false, false, false, false, false, false, false]), (187, [true, false, false, false, false, true, false, false]), (206, [true, false, false, false, false, true, true, false]), (225, [true, false, false, false, false, true, true, false]), (305, [true, false, false, false, false, true, false, false]), (311, [true, false, false, false, false, false, false, false]), (337, [true, false, false, false, false, false, false, false]), (340, [true, false, false, false, false, true, false, false]), (374, [true, false, false, false, false, false, false, false])] q
theorem vc_189_36 (tt : Nat → Nat) (a0 : Nat) (a1 : Int32) (h : am_H) (Q : am_H → Prop) (Qx : String → am_H → Prop) (q :
  am_Ev tt 189 41 [some (.ref a0), some (.int a1), none, some (.int (Int32.ofNat 0)), some (.int (Int32.ofNat 0)), none, none, none] [] h (am_pV Q Qx)) :
  am_Ev tt 189 36 [some (.ref a0), some (.int a1), none, none, none, none, none, none] [] h (am_pV Q Qx) := am_vc 7 [(36, [true, true, false, false, false, false, false, false]), (41, [true, true, false, true, true, false, false, false]), (88, [true, true, false, true, false, false, false, false]), (109, [true, false, false, false, false, false, false, false]), (147, [true, false, false, false, false, false, false, false]), (150, [true, false, false, false, false, true, false, false]), (178, [true, false, false, false, false, false, false, false]), (187, [true, false, false, false, false, true, false, false]), (206, [true, false, false, false, false, true, true, false]), (225, [true, false, false, false, false, true, true, false]), (305, [true, false, false, false, false, true, false, false]), (311, [true, false, false, false, false, false, false, false]), (337, [true, false, false, false, false, false, false, false]), (340, [true, false, false, false, false, true, false, false]), (374, [true, false, false, false, false, false, false, false])] q
theorem vc_189_41 (tt : Nat → Nat) (a0 : Nat) (a1 : Int32) (a3 : Int32) (a4 : Int32) (h : am_H) (Q : am_H → Prop) (Qx : String → am_H → Prop) (q :
  (am_K h a0 = 11 ∧
  (((am_I h 10 30 a0) ≤ a4 →
   am_Ev tt 189 88 [some (.ref a0), some (.int a1), none, some (.int a3), none, none, none, none] [] h (am_pV Q Qx)) ∧
  (¬ ((am_I h 10 30 a0) ≤ a4) →
   (am_K h a0 = 11 ∧ ∃ (Q2 : Int32 → am_H → Prop) (X2 : String → am_H → Prop), am_Ct tt 176 [.ref a0] h (am_pI Q2 X2) ∧ (∀ x3 h1, Q2 x3 h1 →
    ((x3 = (Int32.ofNat 0) →
     am_Ev tt 189 88 [some (.ref a0), some (.int a1), none, some (.int a3), none, none, none, none] [] h1 (am_pV Q Qx)) ∧
    (¬ (x3 = (Int32.ofNat 0)) →
     (am_K h1 a0 = 11 ∧ ∃ q4, am_R h1 10 31 a0 = some q4 ∧
     (am_K h1 a0 = 11 ∧ ∃ (Q6 : Int32 → am_H → Prop) (X6 : String → am_H → Prop), am_Ct tt 182 [.ref a0, .long (Int64.ofNat 1), .long (Int64.ofNat 2400)] h1 (am_pI Q6 X6) ∧ (∀ x7 h5, Q6 x7 h5 →
      (am_K h5 q4 = 21 ∧ vp_in a4 (am_N h5 q4) ∧
      (am_K h5 a0 = 11 ∧ ∃ q8, am_R h5 10 31 a0 = some q8 ∧
      ((am_K h5 q8 = 21 ∨ am_K h5 q8 = 31) ∧ vp_in a4 (am_N h5 q8) ∧
      am_Ev tt 189 41 [some (.ref a0), some (.int a1), none, some (.int (a3 + (am_A (am_sA h5 q4 (a4).toNatClampNeg x7) q8 (a4).toNatClampNeg))), some (.int (a4 + (Int32.ofNat 1))), none, none, none] [] (am_sA h5 q4 (a4).toNatClampNeg x7) (am_pV Q Qx))))) ∧ (∀ E9 h5, X6 E9 h5 → Qx E9 h5)))))) ∧ (∀ E10 h1, X2 E10 h1 → Qx E10 h1)))))) :
  am_Ev tt 189 41 [some (.ref a0), some (.int a1), none, some (.int a3), some (.int a4), none, none, none] [] h (am_pV Q Qx) := am_vc 27 [(36, [true, true, false, false, false, false, false, false]), (41, [true, true, false, true, true, false, false, false]), (88, [true, true, false, true, false, false, false, false]), (109, [true, false, false, false, false, false, false, false]), (147, [true, false, false, false, false, false, false, false]), (150, [true, false, false, false, false, true, false, false]), (178, [true, false, false, false, false, false, false, false]), (187, [true, false, false, false, false, true, false, false]), (206, [true, false, false, false, false, true, true, false]), (225, [true, false, false, false, false, true, true, false]), (305, [true, false, false, false, false, true, false, false]), (311, [true, false, false, false, false, false, false, false]), (337, [true, false, false, false, false, false, false, false]), (340, [true, false, false, false, false, true, false, false]), (374, [true, false, false, false, false, false, false, false])] q
theorem vc_189_88 (tt : Nat → Nat) (a0 : Nat) (a1 : Int32) (a3 : Int32) (h : am_H) (Q : am_H → Prop) (Qx : String → am_H → Prop) (q :
  (am_K h a0 = 11 ∧ ∃ (Q2 : Int32 → am_H → Prop) (X2 : String → am_H → Prop), am_Ct tt 176 [.ref a0] h (am_pI Q2 X2) ∧ (∀ x3 h1, Q2 x3 h1 →
   ((x3 = (Int32.ofNat 0) →
    am_Ev tt 189 109 [some (.ref a0), none, none, none, none, none, none, none] [] h1 (am_pV Q Qx)) ∧
   (¬ (x3 = (Int32.ofNat 0)) →
    ((a3 = a1 →
     am_Ev tt 189 109 [some (.ref a0), none, none, none, none, none, none, none] [] h1 (am_pV Q Qx)) ∧
    (¬ (a3 = a1) →
     (am_K h1 a0 = 11 ∧
     (am_K h1 a0 = 11 ∧ ∃ (Q5 : am_H → Prop) (X5 : String → am_H → Prop), am_Ct tt 177 [.ref a0, .int (Int32.ofNat 5), .int (am_I h1 10 51 a0)] h1 (am_pV Q5 X5) ∧ (∀ h4, Q5 h4 →
      am_Ev tt 189 109 [some (.ref a0), none, none, none, none, none, none, none] [] h4 (am_pV Q Qx)) ∧ (∀ E6 h4, X5 E6 h4 → Qx E6 h4)))))))) ∧ (∀ E7 h1, X2 E7 h1 → Qx E7 h1))) :
  am_Ev tt 189 88 [some (.ref a0), some (.int a1), none, some (.int a3), none, none, none, none] [] h (am_pV Q Qx) := am_vc 14 [(36, [true, true, false, false, false, false, false, false]), (41, [true, true, false, true, true, false, false, false]), (88, [true, true, false, true, false, false, false, false]), (109, [true, false, false, false, false, false, false, false]), (147, [true, false, false, false, false, false, false, false]), (150, [true, false, false, false, false, true, false, false]), (178, [true, false, false, false, false, false, false, false]), (187, [true, false, false, false, false, true, false, false]), (206, [true, false, false, false, false, true, true, false]), (225, [true, false, false, false, false, true, true, false]), (305, [true, false, false, false, false, true, false, false]), (311, [true, false, false, false, false, false, false, false]), (337, [true, false, false, false, false, false, false, false]), (340, [true, false, false, false, false, true, false, false]), (374, [true, false, false, false, false, false, false, false])] q
theorem vc_189_109 (tt : Nat → Nat) (a0 : Nat) (h : am_H) (Q : am_H → Prop) (Qx : String → am_H → Prop) (q :
  (am_K h a0 = 11 ∧ ∃ (Q2 : am_H → Prop) (X2 : String → am_H → Prop), am_Ct tt 180 [.ref a0, .int (Int32.ofNat 0)] h (am_pV Q2 X2) ∧ (∀ h1, Q2 h1 →
   (am_K h1 a0 = 11 ∧ ∃ (Q4 : am_H → Prop) (X4 : String → am_H → Prop), am_Ct tt 180 [.ref a0, .int (Int32.ofNat 7)] h1 (am_pV Q4 X4) ∧ (∀ h3, Q4 h3 →
    (am_K h3 a0 = 11 ∧ ∃ (Q6 : am_H → Prop) (X6 : String → am_H → Prop), am_Ct tt 180 [.ref a0, .int (Int32.ofNat 11)] h3 (am_pV Q6 X6) ∧ (∀ h5, Q6 h5 →
     (am_K h5 a0 = 11 ∧
     (am_K h5 a0 = 11 ∧
     (am_K h5 a0 = 11 ∧ ∃ (Q8 : Int32 → am_H → Prop) (X8 : String → am_H → Prop), am_Ct tt 182 [.ref a0, .long ((am_I h5 10 30 a0)).toInt64, .long ((am_I h5 10 30 a0)).toInt64] h5 (am_pI Q8 X8) ∧ (∀ x9 h7, Q8 x9 h7 →
      (am_K h7 a0 = 11 ∧ ∃ (Q11 : am_H → Prop) (X11 : String → am_H → Prop), am_Ct tt 180 [.ref a0, .int (Int32.ofNat 0)] h7 (am_pV Q11 X11) ∧ (∀ h10, Q11 h10 →
       am_Ev tt 189 147 [some (.ref a0), none, none, none, none, none, none, none] [] h10 (am_pV Q Qx)) ∧ (∀ E12 h10, X11 E12 h10 → Qx E12 h10))) ∧ (∀ E13 h7, X8 E13 h7 → Qx E13 h7))))) ∧ (∀ E14 h5, X6 E14 h5 → Qx E14 h5))) ∧ (∀ E15 h3, X4 E15 h3 → Qx E15 h3))) ∧ (∀ E16 h1, X2 E16 h1 → Qx E16 h1))) :
  am_Ev tt 189 109 [some (.ref a0), none, none, none, none, none, none, none] [] h (am_pV Q Qx) := am_vc 24 [(36, [true, true, false, false, false, false, false, false]), (41, [true, true, false, true, true, false, false, false]), (88, [true, true, false, true, false, false, false, false]), (109, [true, false, false, false, false, false, false, false]), (147, [true, false, false, false, false, false, false, false]), (150, [true, false, false, false, false, true, false, false]), (178, [true, false, false, false, false, false, false, false]), (187, [true, false, false, false, false, true, false, false]), (206, [true, false, false, false, false, true, true, false]), (225, [true, false, false, false, false, true, true, false]), (305, [true, false, false, false, false, true, false, false]), (311, [true, false, false, false, false, false, false, false]), (337, [true, false, false, false, false, false, false, false]), (340, [true, false, false, false, false, true, false, false]), (374, [true, false, false, false, false, false, false, false])] q
theorem vc_189_147 (tt : Nat → Nat) (a0 : Nat) (h : am_H) (Q : am_H → Prop) (Qx : String → am_H → Prop) (q :
  am_Ev tt 189 150 [some (.ref a0), none, none, none, none, some (.int (Int32.ofNat 0)), none, none] [] h (am_pV Q Qx)) :
  am_Ev tt 189 147 [some (.ref a0), none, none, none, none, none, none, none] [] h (am_pV Q Qx) := am_vc 5 [(36, [true, true, false, false, false, false, false, false]), (41, [true, true, false, true, true, false, false, false]), (88, [true, true, false, true, false, false, false, false]), (109, [true, false, false, false, false, false, false, false]), (147, [true, false, false, false, false, false, false, false]), (150, [true, false, false, false, false, true, false, false]), (178, [true, false, false, false, false, false, false, false]), (187, [true, false, false, false, false, true, false, false]), (206, [true, false, false, false, false, true, true, false]), (225, [true, false, false, false, false, true, true, false]), (305, [true, false, false, false, false, true, false, false]), (311, [true, false, false, false, false, false, false, false]), (337, [true, false, false, false, false, false, false, false]), (340, [true, false, false, false, false, true, false, false]), (374, [true, false, false, false, false, false, false, false])] q
theorem vc_189_150 (tt : Nat → Nat) (a0 : Nat) (a5 : Int32) (h : am_H) (Q : am_H → Prop) (Qx : String → am_H → Prop) (q :
  (am_K h a0 = 11 ∧
  (((am_I h 10 30 a0) ≤ a5 →
   am_Ev tt 189 178 [some (.ref a0), none, none, none, none, none, none, none] [] h (am_pV Q Qx)) ∧
  (¬ ((am_I h 10 30 a0) ≤ a5) →
   (am_K h a0 = 11 ∧ ∃ (Q2 : Int32 → am_H → Prop) (X2 : String → am_H → Prop), am_Ct tt 176 [.ref a0] h (am_pI Q2 X2) ∧ (∀ x3 h1, Q2 x3 h1 →
    ((x3 = (Int32.ofNat 0) →
     am_Ev tt 189 178 [some (.ref a0), none, none, none, none, none, none, none] [] h1 (am_pV Q Qx)) ∧
    (¬ (x3 = (Int32.ofNat 0)) →
     (am_K h1 a0 = 11 ∧ ∃ (Q5 : am_H → Prop) (X5 : String → am_H → Prop), am_Ct tt 185 [.ref a0, .int a5] h1 (am_pV Q5 X5) ∧ (∀ h4, Q5 h4 →
      am_Ev tt 189 150 [some (.ref a0), none, none, none, none, some (.int (a5 + (Int32.ofNat 1))), none, none] [] h4 (am_pV Q Qx)) ∧ (∀ E6 h4, X5 E6 h4 → Qx E6 h4))))) ∧ (∀ E7 h1, X2 E7 h1 → Qx E7 h1)))))) :
  am_Ev tt 189 150 [some (.ref a0), none, none, none, none, some (.int a5), none, none] [] h (am_pV Q Qx) := am_vc 15 [(36, [true, true, false, false, false, false, false, false]), (41, [true, true, false, true, true, false, false, false]), (88, [true, true, false, true, false, false, false, false]), (109, [true, false, false, false, false, false, false, false]), (147, [true, false, false, false, false, false, false, false]), (150, [true, false, false, false, false, true, false, false]), (178, [true, false, false, false, false, false, false, false]), (187, [true, false, false, false, false, true, false, false]), (206, [true, false, false, false, false, true, true, false]), (225, [true, false, false, false, false, true, true, false]), (305, [true, false, false, false, false, true, false, false]), (311, [true, false, false, false, false, false, false, false]), (337, [true, false, false, false, false, false, false, false]), (340, [true, false, false, false, false, true, false, false]), (374, [true, false, false, false, false, false, false, false])] q
theorem vc_189_178 (tt : Nat → Nat) (a0 : Nat) (h : am_H) (Q : am_H → Prop) (Qx : String → am_H → Prop) (q :
  (am_K h a0 = 11 ∧ ∃ (Q2 : am_H → Prop) (X2 : String → am_H → Prop), am_Ct tt 180 [.ref a0, .int (Int32.ofNat 12)] h (am_pV Q2 X2) ∧ (∀ h1, Q2 h1 →
   am_Ev tt 189 187 [some (.ref a0), none, none, none, none, some (.int (Int32.ofNat 0)), none, none] [] h1 (am_pV Q Qx)) ∧ (∀ E3 h1, X2 E3 h1 → Qx E3 h1))) :
  am_Ev tt 189 178 [some (.ref a0), none, none, none, none, none, none, none] [] h (am_pV Q Qx) := am_vc 8 [(36, [true, true, false, false, false, false, false, false]), (41, [true, true, false, true, true, false, false, false]), (88, [true, true, false, true, false, false, false, false]), (109, [true, false, false, false, false, false, false, false]), (147, [true, false, false, false, false, false, false, false]), (150, [true, false, false, false, false, true, false, false]), (178, [true, false, false, false, false, false, false, false]), (187, [true, false, false, false, false, true, false, false]), (206, [true, false, false, false, false, true, true, false]), (225, [true, false, false, false, false, true, true, false]), (305, [true, false, false, false, false, true, false, false]), (311, [true, false, false, false, false, false, false, false]), (337, [true, false, false, false, false, false, false, false]), (340, [true, false, false, false, false, true, false, false]), (374, [true, false, false, false, false, false, false, false])] q
theorem vc_189_187 (tt : Nat → Nat) (a0 : Nat) (a5 : Int32) (h : am_H) (Q : am_H → Prop) (Qx : String → am_H → Prop) (q :
  (am_K h a0 = 11 ∧
  (((am_I h 10 30 a0) ≤ a5 →
   am_Ev tt 189 311 [some (.ref a0), none, none, none, none, none, none, none] [] h (am_pV Q Qx)) ∧
  (¬ ((am_I h 10 30 a0) ≤ a5) →
   (am_K h a0 = 11 ∧ ∃ (Q2 : Int32 → am_H → Prop) (X2 : String → am_H → Prop), am_Ct tt 176 [.ref a0] h (am_pI Q2 X2) ∧ (∀ x3 h1, Q2 x3 h1 →
    ((x3 = (Int32.ofNat 0) →
     am_Ev tt 189 311 [some (.ref a0), none, none, none, none, none, none, none] [] h1 (am_pV Q Qx)) ∧
    (¬ (x3 = (Int32.ofNat 0)) →
     am_Ev tt 189 206 [some (.ref a0), none, none, none, none, some (.int a5), some (.int (Int32.ofNat 0)), none] [] h1 (am_pV Q Qx)))) ∧ (∀ E4 h1, X2 E4 h1 → Qx E4 h1)))))) :
  am_Ev tt 189 187 [some (.ref a0), none, none, none, none, some (.int a5), none, none] [] h (am_pV Q Qx) := am_vc 12 [(36, [true, true, false, false, false, false, false, false]), (41, [true, true, false, true, true, false, false, false]), (88, [true, true, false, true, false, false, false, false]), (109, [true, false, false, false, false, false, false, false]), (147, [true, false, false, false, false, false, false, false]), (150, [true, false, false, false, false, true, false, false]), (178, [true, false, false, false, false, false, false, false]), (187, [true, false, false, false, false, true, false, false]), (206, [true, false, false, false, false, true, true, false]), (225, [true, false, false, false, false, true, true, false]), (305, [true, false, false, false, false, true, false, false]), (311, [true, false, false, false, false, false, false, false]), (337, [true, false, false, false, false, false, false, false]), (340, [true, false, false, false, false, true, false, false]), (374, [true, false, false, false, false, false, false, false])] q
theorem vc_189_206 (tt : Nat → Nat) (a0 : Nat) (a5 : Int32) (a6 : Int32) (h : am_H) (Q : am_H → Prop) (Qx : String → am_H → Prop) (q :
  (am_K h a0 = 11 ∧ ∃ q1, am_R h 10 33 a0 = some q1 ∧
  ((am_K h q1 = 21 ∨ am_K h q1 = 31) ∧ vp_in a5 (am_N h q1) ∧
  (((am_A h q1 (a5).toNatClampNeg) ≤ a6 →
   am_Ev tt 189 305 [some (.ref a0), none, none, none, none, some (.int a5), none, none] [] h (am_pV Q Qx)) ∧
  (¬ ((am_A h q1 (a5).toNatClampNeg) ≤ a6) →
   (am_K h a0 = 11 ∧ ∃ (Q3 : Int32 → am_H → Prop) (X3 : String → am_H → Prop), am_Ct tt 176 [.ref a0] h (am_pI Q3 X3) ∧ (∀ x4 h2, Q3 x4 h2 →
    ((x4 = (Int32.ofNat 0) →
     am_Ev tt 189 305 [some (.ref a0), none, none, none, none, some (.int a5), none, none] [] h2 (am_pV Q Qx)) ∧
    (¬ (x4 = (Int32.ofNat 0)) →
     am_Ev tt 189 225 [some (.ref a0), none, none, none, none, some (.int a5), some (.int a6), none] [] h2 (am_pV Q Qx)))) ∧ (∀ E5 h2, X3 E5 h2 → Qx E5 h2))))))) :
  am_Ev tt 189 206 [some (.ref a0), none, none, none, none, some (.int a5), some (.int a6), none] [] h (am_pV Q Qx) := am_vc 12 [(36, [true, true, false, false, false, false, false, false]), (41, [true, true, false, true, true, false, false, false]), (88, [true, true, false, true, false, false, false, false]), (109, [true, false, false, false, false, false, false, false]), (147, [true, false, false, false, false, false, false, false]), (150, [true, false, false, false, false, true, false, false]), (178, [true, false, false, false, false, false, false, false]), (187, [true, false, false, false, false, true, false, false]), (206, [true, false, false, false, false, true, true, false]), (225, [true, false, false, false, false, true, true, false]), (305, [true, false, false, false, false, true, false, false]), (311, [true, false, false, false, false, false, false, false]), (337, [true, false, false, false, false, false, false, false]), (340, [true, false, false, false, false, true, false, false]), (374, [true, false, false, false, false, false, false, false])] q
theorem vc_189_225 (tt : Nat → Nat) (a0 : Nat) (a5 : Int32) (a6 : Int32) (h : am_H) (Q : am_H → Prop) (Qx : String → am_H → Prop) (q :
  (am_K h a0 = 11 ∧ ∃ q1, am_R h 10 34 a0 = some q1 ∧
  ((am_K h q1 = 23 ∨ am_K h q1 = 24) ∧ vp_in a5 (am_N h q1) ∧
  (((am_A h q1 (a5).toNatClampNeg) = (Int32.ofNat 0) →
   (am_K h a0 = 11 ∧ ∃ (Q3 : Int32 → am_H → Prop) (X3 : String → am_H → Prop), am_Ct tt 182 [.ref a0, .long (Int64.ofNat 1), .long (Int64.ofNat 2400)] h (am_pI Q3 X3) ∧ (∀ x4 h2, Q3 x4 h2 →
    (am_K h2 a0 = 11 ∧ ∃ q5, am_R h2 10 32 a0 = some q5 ∧
    (am_K h2 a0 = 11 ∧ ∃ q6, am_R h2 10 59 a0 = some q6 ∧
    ((am_K h2 q6 = 21 ∨ am_K h2 q6 = 31) ∧ vp_in a5 (am_N h2 q6) ∧
    ((¬ a6 = (am_A h2 q6 (a5).toNatClampNeg) →
     (am_K h2 a0 = 11 ∧ ∃ q7, am_R h2 10 32 a0 = some q7 ∧
     ((am_K h2 q7 = 21 ∨ am_K h2 q7 = 31) ∧ vp_in a5 (am_N h2 q7) ∧
     (am_K h2 q5 = 21 ∧ vp_in a5 (am_N h2 q5) ∧
     am_Ev tt 189 206 [some (.ref a0), none, none, none, none, some (.int a5), some (.int (a6 + (Int32.ofNat 1))), none] [] (am_sA h2 q5 (a5).toNatClampNeg (am_A h2 q7 (a5).toNatClampNeg)) (am_pV Q Qx))))) ∧
    (¬ (¬ a6 = (am_A h2 q6 (a5).toNatClampNeg)) →
     (am_K h2 q5 = 21 ∧ vp_in a5 (am_N h2 q5) ∧
     am_Ev tt 189 206 [some (.ref a0), none, none, none, none, some (.int a5), some (.int (a6 + (Int32.ofNat 1))), none] [] (am_sA h2 q5 (a5).toNatClampNeg x4) (am_pV Q Qx)))))))) ∧ (∀ E8 h2, X3 E8 h2 → Qx E8 h2))) ∧
  (¬ ((am_A h q1 (a5).toNatClampNeg) = (Int32.ofNat 0)) →
   (am_K h a0 = 11 ∧ ∃ q9, am_R h 10 31 a0 = some q9 ∧
   ((am_K h q9 = 21 ∨ am_K h q9 = 31) ∧ vp_in a5 (am_N h q9) ∧
   (am_K h a0 = 11 ∧ ∃ q10, am_R h 10 31 a0 = some q10 ∧
   ((am_K h q10 = 21 ∨ am_K h q10 = 31) ∧ vp_in a5 (am_N h q10) ∧
   (am_K h a0 = 11 ∧ ∃ (Q12 : Int32 → am_H → Prop) (X12 : String → am_H → Prop), am_Ct tt 182 [.ref a0, .long ((am_A h q9 (a5).toNatClampNeg)).toInt64, .long ((am_A h q10 (a5).toNatClampNeg)).toInt64] h (am_pI Q12 X12) ∧ (∀ x13 h11, Q12 x13 h11 →
    (am_K h11 a0 = 11 ∧ ∃ q14, am_R h11 10 32 a0 = some q14 ∧
    (am_K h11 a0 = 11 ∧ ∃ q15, am_R h11 10 59 a0 = some q15 ∧
    ((am_K h11 q15 = 21 ∨ am_K h11 q15 = 31) ∧ vp_in a5 (am_N h11 q15) ∧
    ((¬ a6 = (am_A h11 q15 (a5).toNatClampNeg) →
     (am_K h11 a0 = 11 ∧ ∃ q16, am_R h11 10 32 a0 = some q16 ∧
     ((am_K h11 q16 = 21 ∨ am_K h11 q16 = 31) ∧ vp_in a5 (am_N h11 q16) ∧
     (am_K h11 q14 = 21 ∧ vp_in a5 (am_N h11 q14) ∧
     am_Ev tt 189 206 [some (.ref a0), none, none, none, none, some (.int a5), some (.int (a6 + (Int32.ofNat 1))), none] [] (am_sA h11 q14 (a5).toNatClampNeg (am_A h11 q16 (a5).toNatClampNeg)) (am_pV Q Qx))))) ∧
    (¬ (¬ a6 = (am_A h11 q15 (a5).toNatClampNeg)) →
     (am_K h11 q14 = 21 ∧ vp_in a5 (am_N h11 q14) ∧
     am_Ev tt 189 206 [some (.ref a0), none, none, none, none, some (.int a5), some (.int (a6 + (Int32.ofNat 1))), none] [] (am_sA h11 q14 (a5).toNatClampNeg x13) (am_pV Q Qx)))))))) ∧ (∀ E17 h11, X12 E17 h11 → Qx E17 h11))))))))))) :
  am_Ev tt 189 225 [some (.ref a0), none, none, none, none, some (.int a5), some (.int a6), none] [] h (am_pV Q Qx) := am_vc 38 [(36, [true, true, false, false, false, false, false, false]), (41, [true, true, false, true, true, false, false, false]), (88, [true, true, false, true, false, false, false, false]), (109, [true, false, false, false, false, false, false, false]), (147, [true, false, false, false, false, false, false, false]), (150, [true, false, false, false, false, true, false, false]), (178, [true, false, false, false, false, false, false, false]), (187, [true, false, false, false, false, true, false, false]), (206, [true, false, false, false, false, true, true, false]), (225, [true, false, false, false, false, true, true, false]), (305, [true, false, false, false, false, true, false, false]), (311, [true, false, false, false, false, false, false, false]), (337, [true, false, false, false, false, false, false, false]), (340, [true, false, false, false, false, true, false, false]), (374, [true, false, false, false, false, false, false, false])] q
set_option maxRecDepth 4096 in
theorem vc_189_305 (tt : Nat → Nat) (a0 : Nat) (a5 : Int32) (h : am_H) (Q : am_H → Prop) (Qx : String → am_H → Prop) (q :
  am_Ev tt 189 187 [some (.ref a0), none, none, none, none, some (.int (a5 + (Int32.ofNat 1))), none, none] [] h (am_pV Q Qx)) :
  am_Ev tt 189 305 [some (.ref a0), none, none, none, none, some (.int a5), none, none] [] h (am_pV Q Qx) := am_vc 5 [(36, [true, true, false, false, false, false, false, false]), (41, [true, true, false, true, true, false, false, false]), (88, [true, true, false, true, false, false, false, false]), (109, [true, false, false, false, false, false, false, false]), (147, [true, false, false, false, false, false, false, false]), (150, [true, false, false, false, false, true, false, false]), (178, [true, false, false, false, false, false, false, false]), (187, [true, false, false, false, false, true, false, false]), (206, [true, false, false, false, false, true, true, false]), (225, [true, false, false, false, false, true, true, false]), (305, [true, false, false, false, false, true, false, false]), (311, [true, false, false, false, false, false, false, false]), (337, [true, false, false, false, false, false, false, false]), (340, [true, false, false, false, false, true, false, false]), (374, [true, false, false, false, false, false, false, false])] q
set_option maxRecDepth 4096 in
theorem vc_189_311 (tt : Nat → Nat) (a0 : Nat) (h : am_H) (Q : am_H → Prop) (Qx : String → am_H → Prop) (q :
  (am_K h a0 = 11 ∧ ∃ (Q2 : am_H → Prop) (X2 : String → am_H → Prop), am_Ct tt 180 [.ref a0, .int (Int32.ofNat 0)] h (am_pV Q2 X2) ∧ (∀ h1, Q2 h1 →
   (am_K h1 a0 = 11 ∧ ∃ (Q4 : am_H → Prop) (X4 : String → am_H → Prop), am_Ct tt 180 [.ref a0, .int (Int32.ofNat 8)] h1 (am_pV Q4 X4) ∧ (∀ h3, Q4 h3 →
    (am_K h3 a0 = 11 ∧ ∃ (Q6 : am_H → Prop) (X6 : String → am_H → Prop), am_Ct tt 190 [.ref a0] h3 (am_pV Q6 X6) ∧ (∀ h5, Q6 h5 →
     (am_K h5 a0 = 11 ∧ ∃ (Q8 : am_H → Prop) (X8 : String → am_H → Prop), am_Ct tt 180 [.ref a0, .int (Int32.ofNat 10)] h5 (am_pV Q8 X8) ∧ (∀ h7, Q8 h7 →
      (am_K h7 a0 = 11 ∧ ∃ (Q10 : am_H → Prop) (X10 : String → am_H → Prop), am_Ct tt 180 [.ref a0, .int (Int32.ofNat 1)] h7 (am_pV Q10 X10) ∧ (∀ h9, Q10 h9 →
       am_Ev tt 189 337 [some (.ref a0), none, none, none, none, none, none, none] [] h9 (am_pV Q Qx)) ∧ (∀ E11 h9, X10 E11 h9 → Qx E11 h9))) ∧ (∀ E12 h7, X8 E12 h7 → Qx E12 h7))) ∧ (∀ E13 h5, X6 E13 h5 → Qx E13 h5))) ∧ (∀ E14 h3, X4 E14 h3 → Qx E14 h3))) ∧ (∀ E15 h1, X2 E15 h1 → Qx E15 h1))) :
  am_Ev tt 189 311 [some (.ref a0), none, none, none, none, none, none, none] [] h (am_pV Q Qx) := am_vc 17 [(36, [true, true, false, false, false, false, false, false]), (41, [true, true, false, true, true, false, false, false]), (88, [true, true, false, true, false, false, false, false]), (109, [true, false, false, false, false, false, false, false]), (147, [true, false, false, false, false, false, false, false]), (150, [true, false, false, false, false, true, false, false]), (178, [true, false, false, false, false, false, false, false]), (187, [true, false, false, false, false, true, false, false]), (206, [true, false, false, false, false, true, true, false]), (225, [true, false, false, false, false, true, true, false]), (305, [true, false, false, false, false, true, false, false]), (311, [true, false, false, false, false, false, false, false]), (337, [true, false, false, false, false, false, false, false]), (340, [true, false, false, false, false, true, false, false]), (374, [true, false, false, false, false, false, false, false])] q
set_option maxRecDepth 4096 in
theorem vc_189_337 (tt : Nat → Nat) (a0 : Nat) (h : am_H) (Q : am_H → Prop) (Qx : String → am_H → Prop) (q :
  am_Ev tt 189 340 [some (.ref a0), none, none, none, none, some (.int (Int32.ofNat 0)), none, none] [] h (am_pV Q Qx)) :
  am_Ev tt 189 337 [some (.ref a0), none, none, none, none, none, none, none] [] h (am_pV Q Qx) := am_vc 5 [(36, [true, true, false, false, false, false, false, false]), (41, [true, true, false, true, true, false, false, false]), (88, [true, true, false, true, false, false, false, false]), (109, [true, false, false, false, false, false, false, false]), (147, [true, false, false, false, false, false, false, false]), (150, [true, false, false, false, false, true, false, false]), (178, [true, false, false, false, false, false, false, false]), (187, [true, false, false, false, false, true, false, false]), (206, [true, false, false, false, false, true, true, false]), (225, [true, false, false, false, false, true, true, false]), (305, [true, false, false, false, false, true, false, false]), (311, [true, false, false, false, false, false, false, false]), (337, [true, false, false, false, false, false, false, false]), (340, [true, false, false, false, false, true, false, false]), (374, [true, false, false, false, false, false, false, false])] q
set_option maxRecDepth 4096 in
theorem vc_189_340 (tt : Nat → Nat) (a0 : Nat) (a5 : Int32) (h : am_H) (Q : am_H → Prop) (Qx : String → am_H → Prop) (q :
  (am_K h a0 = 11 ∧
  (((am_I h 10 29 a0) ≤ a5 →
   am_Ev tt 189 374 [some (.ref a0), none, none, none, none, none, none, none] [] h (am_pV Q Qx)) ∧
  (¬ ((am_I h 10 29 a0) ≤ a5) →
   (am_K h a0 = 11 ∧ ∃ (Q2 : Int32 → am_H → Prop) (X2 : String → am_H → Prop), am_Ct tt 176 [.ref a0] h (am_pI Q2 X2) ∧ (∀ x3 h1, Q2 x3 h1 →
    ((x3 = (Int32.ofNat 0) →
     am_Ev tt 189 374 [some (.ref a0), none, none, none, none, none, none, none] [] h1 (am_pV Q Qx)) ∧
    (¬ (x3 = (Int32.ofNat 0)) →
     (am_K h1 a0 = 11 ∧ ∃ q4, am_R h1 10 40 a0 = some q4 ∧
     (am_K h1 a0 = 11 ∧ ∃ (Q6 : Int64 → am_H → Prop) (X6 : String → am_H → Prop), am_Ct tt 183 [.ref a0, .int (Int32.ofNat 4)] h1 (am_pL Q6 X6) ∧ (∀ x7 h5, Q6 x7 h5 →
      (am_K h5 q4 = 22 ∧ vp_in a5 (am_N h5 q4) ∧
      am_Ev tt 189 340 [some (.ref a0), none, none, none, none, some (.int (a5 + (Int32.ofNat 1))), none, none] [] (am_sB h5 q4 (a5).toNatClampNeg x7) (am_pV Q Qx))) ∧ (∀ E8 h5, X6 E8 h5 → Qx E8 h5)))))) ∧ (∀ E9 h1, X2 E9 h1 → Qx E9 h1)))))) :
  am_Ev tt 189 340 [some (.ref a0), none, none, none, none, some (.int a5), none, none] [] h (am_pV Q Qx) := am_vc 19 [(36, [true, true, false, false, false, false, false, false]), (41, [true, true, false, true, true, false, false, false]), (88, [true, true, false, true, false, false, false, false]), (109, [true, false, false, false, false, false, false, false]), (147, [true, false, false, false, false, false, false, false]), (150, [true, false, false, false, false, true, false, false]), (178, [true, false, false, false, false, false, false, false]), (187, [true, false, false, false, false, true, false, false]), (206, [true, false, false, false, false, true, true, false]), (225, [true, false, false, false, false, true, true, false]), (305, [true, false, false, false, false, true, false, false]), (311, [true, false, false, false, false, false, false, false]), (337, [true, false, false, false, false, false, false, false]), (340, [true, false, false, false, false, true, false, false]), (374, [true, false, false, false, false, false, false, false])] q
set_option maxRecDepth 4096 in
theorem vc_189_374 (tt : Nat → Nat) (a0 : Nat) (h : am_H) (Q : am_H → Prop) (Qx : String → am_H → Prop) (q :
  (am_K h a0 = 11 ∧ ∃ (Q2 : am_H → Prop) (X2 : String → am_H → Prop), am_Ct tt 180 [.ref a0, .int (Int32.ofNat 0)] h (am_pV Q2 X2) ∧ (∀ h1, Q2 h1 →
   (am_K h1 a0 = 11 ∧ ∃ (Q4 : am_H → Prop) (X4 : String → am_H → Prop), am_Ct tt 180 [.ref a0, .int (Int32.ofNat 0)] h1 (am_pV Q4 X4) ∧ (∀ h3, Q4 h3 →
    Q h3) ∧ (∀ E5 h3, X4 E5 h3 → Qx E5 h3))) ∧ (∀ E6 h1, X2 E6 h1 → Qx E6 h1))) :
  am_Ev tt 189 374 [some (.ref a0), none, none, none, none, none, none, none] [] h (am_pV Q Qx) := am_vc 9 [(36, [true, true, false, false, false, false, false, false]), (41, [true, true, false, true, true, false, false, false]), (88, [true, true, false, true, false, false, false, false]), (109, [true, false, false, false, false, false, false, false]), (147, [true, false, false, false, false, false, false, false]), (150, [true, false, false, false, false, true, false, false]), (178, [true, false, false, false, false, false, false, false]), (187, [true, false, false, false, false, true, false, false]), (206, [true, false, false, false, false, true, true, false]), (225, [true, false, false, false, false, true, true, false]), (305, [true, false, false, false, false, true, false, false]), (311, [true, false, false, false, false, false, false, false]), (337, [true, false, false, false, false, false, false, false]), (340, [true, false, false, false, false, true, false, false]), (374, [true, false, false, false, false, false, false, false])] q

/-- what was read, where something was -/
def vl {α : Type} (r : Except pe (α × Nat)) (d : α) : α := match r with
  | .ok (a, _) => a
  | .error _ => d
theorem bs_n {α β : Type} {s : Ms} {a : Nat → Except pe (α × Nat)} {K : α → Nat → Except pe β} (d : α) : bs s (fun p => bd (a p) K) = bs (st (bs s a)) (fun p => K (vl (bs s a) d) p) := by
  cases s with
  | error e => rfl
  | ok p =>
    show bd (a p) K = bs (st (a p)) (fun q => K (vl (a p) d) q)
    cases a p with
    | error e => rfl
    | ok x => rfl
theorem ok_b {α : Type} {s : Ms} {a : Nat → Except pe (α × Nat)} (h : isOk (st (bs s a)) = true) : isOk s = true := by
  cases s with
  | error e => cases h
  | ok p => rfl
theorem ok_v {α : Type} {r : Except pe (α × Nat)} (d : α) (h : isOk (st r) = true) : ∃ p, r = .ok (vl r d, p) := by
  cases r with
  | error e => cases h
  | ok x => exact ⟨x.2, rfl⟩
theorem bd_o {α β : Type} {a : α} {p : Nat} {k : α → Nat → Except pe β} : bd (.ok (a, p)) k = k a p := rfl
def kS5 (F : Fn) (n : Nat) (v : ST) (p : Nat) : Except pe (ST × Nat) := bd (tX F n p 0) fun _ p => bd (tX F n p 0) fun _ p => .ok (v, p)
def kSc (F : Fn) (n B : Nat) (pk : Nat → Nat) (fo : Nat → FO) (x : FI) (p : Nat) : Except pe (ST × Nat) := bd (lCk F n x.1 0 p (fun _ => Int64.ofNat 0)) fun c p => kS5 F n (B, pk, fo, x, c) p
def kS4 (F : Fn) (n B : Nat) (pk : Nat → Nat) (fo : Nat → FO) (g : Nat → Nat) (p : Nat) : Except pe (ST × Nat) := bd (tX F n p 0) fun _ p => bd (tX F n p 8) fun _ p => bd (pFX F n B g p) fun x p => bd (tX F n p 10) fun _ p => bd (tX F n p 1) fun _ p => kSc F n B pk fo x p
def kSg (F : Fn) (n B : Nat) (pk : Nat → Nat) (fo : Nat → FO) (p : Nat) : Except pe (ST × Nat) := bd (lGi F n pk fo B 0 p (fun _ => 0)) fun g p => kS4 F n B pk fo g p
def kS3 (F : Fn) (n B : Nat) (pk : Nat → Nat) (fo : Nat → FO) (p : Nat) : Except pe (ST × Nat) := bd (tX F n p 12) fun _ p => kSg F n B pk fo p
def kSf (F : Fn) (n B : Nat) (pk : Nat → Nat) (p : Nat) : Except pe (ST × Nat) := bd (lFo F n B 0 p (fun _ => (0, true, fun _ => 0, fun _ => 0, 0))) fun fo p => kS3 F n B pk fo p
def kS2 (F : Fn) (n B : Nat) (pk : Nat → Nat) (p : Nat) : Except pe (ST × Nat) := bd (tX F n p 0) fun _ p => bd (tX F n p 7) fun _ p => bd (tX F n p 11) fun _ p => bd (tN F n p (l64 B) (l64 B)) fun _ p => bd (tX F n p 0) fun _ p => kSf F n B pk p
def kSp (F : Fn) (n off B : Nat) (p : Nat) : Except pe (ST × Nat) := bd (lPS F n off B 0 p 0 (fun _ => 0)) fun pk p => kS2 F n B pk p
def kS1 (F : Fn) (n off : Nat) (p : Nat) : Except pe (ST × Nat) := bd (tX F n p 4) fun _ p => bd (tX F n p 6) fun _ p => bd (tN F n p (l64 0) (l64 0)) fun _ p => bd (tN F n p (l64 1) (l64 6)) fun B p => bd (tX F n p 9) fun _ p => kSp F n off B.toNatClampNeg p
theorem pST_k {F : Fn} {n off p : Nat} : pST F n off p = kS1 F n off p := by
  simp only [pST, pPS, pFS, pFI_x, bd_as, bd_o, kS1, kSp, kS2, kSf, kS3, kSg, kS4, kSc, kS5]
section MST
variable {tt : Nat → Nat} {F : Fn} {n m : Nat} {ad : Nat → Nat} {h h' h'' k k' : am_H} {s : Ms} {X Y X' Y' : Nat → Prop}
abbrev Xst (k : Nat) : Prop := (31 ≤ k ∧ k ≤ 40) ∨ (52 ≤ k ∧ k ≤ 60)
abbrev Yst (f : Nat) : Prop := f = 20 ∨ f = 27 ∨ f = 28 ∨ f = 51 ∨ f = 29 ∨ f = 30
def pkR (ad : Nat → Nat) (B : Nat) (pk : Nat → Nat) (k : am_H) : Prop := ∀ f, f < B → am_A k (ad 31) f = Int32.ofNat (pk f)
def foR (ad : Nat → Nat) (B : Nat) (fo : Nat → FO) (k : am_H) : Prop := ∀ f, f < B → FRo ad f (fo f) k
theorem pkR.mo {B : Nat} {pk : Nat → Nat} (q : pkR ad B pk k) (g : mg m ad X Y k k') (h1 : ¬ X 31) : pkR ad B pk k' := fun f hf => by rw [(g.2.1 31 h1).1]; exact q f hf
theorem FRo.mo {f : Nat} {o : FO} (q : FRo ad f o k) (g : mg m ad X Y k k') (h1 : ∀ r, 33 ≤ r → r ≤ 37 ∨ r = 59 → ¬ X r) : FRo ad f o k' := by
  obtain ⟨q1, q2, q3, q4, q5⟩ := q
  exact ⟨by rw [(g.2.1 33 (h1 _ (by omega) (by omega))).1]; exact q1, by rw [(g.2.1 34 (h1 _ (by omega) (by omega))).1]; exact q2, by rw [(g.2.1 37 (h1 _ (by omega) (by omega))).1]; exact q3, by rw [(g.2.1 59 (h1 _ (by omega) (by omega))).1]; exact q4, fun j hj => by rw [(g.2.1 35 (h1 _ (by omega) (by omega))).1, (g.2.1 36 (h1 _ (by omega) (by omega))).1]; exact q5 j hj⟩
theorem foR.mo {B : Nat} {fo : Nat → FO} (q : foR ad B fo k) (g : mg m ad X Y k k') (h1 : ∀ r, 33 ≤ r → r ≤ 37 ∨ r = 59 → ¬ X r) : foR ad B fo k' := fun f hf => (q f hf).mo g h1
theorem fiR.mo {x : FI} (q : fiR ad x k) (g : mg m ad X Y k k') (h1 : ¬ X 38) (h2 : ¬ X 39) : fiR ad x k' := fun f hf => by rw [(g.2.1 38 h1).1, (g.2.1 39 h2).1]; exact q f hf
def stR (m : Nat) (ad : Nat → Nat) (v : ST) (k : am_H) : Prop := am_I k 10 30 m = Int32.ofNat v.1 ∧ pkR ad v.1 v.2.1 k ∧ foR ad v.1 v.2.2.1 k ∧ am_I k 10 29 m = Int32.ofNat v.2.2.2.1.1 ∧ fiR ad v.2.2.2.1 k ∧ ∀ f, f < v.2.2.2.1.1 → am_B k (ad 40) f = v.2.2.2.2 f
theorem stR.mo {v : ST} (q : stR m ad v k) (g : mg m ad X Y k k') (h1 : ∀ r, 31 ≤ r → r ≤ 40 ∨ r = 59 → ¬ X r) (h2 : ¬ Y 29) (h3 : ¬ Y 30) : stR m ad v k' := by
  obtain ⟨q1, q2, q3, q4, q5, q6⟩ := q
  exact ⟨by rw [(g.2.2 30 h3).1]; exact q1, q2.mo g (h1 _ (by omega) (by omega)), q3.mo g (fun r z w => h1 r (by omega) (by omega)), by rw [(g.2.2 29 h2).1]; exact q4, q5.mo g (h1 _ (by omega) (by omega)) (h1 _ (by omega) (by omega)), fun f hf => by rw [(g.2.1 40 (h1 _ (by omega) (by omega))).2]; exact q6 f hf⟩
def stQ (F : Fn) (n m : Nat) (ad : Nat → Nat) (h : am_H) (r : Except pe (ST × Nat)) (k : am_H) : Prop := MY F n k m ad (st r) ∧ mg m ad Xst Yst h k ∧ ∀ v p', r = .ok (v, p') → stR m ad v k
theorem st_374 {r : Except pe (ST × Nat)} {v : ST} (y : MY F n k m ad s) (g : mg m ad Xst Yst h k) (hr : r = bs s (kS5 F n v)) (hv : isOk s = true → stR m ad v k) : am_Ev tt 189 374 [some (.ref m), none, none, none, none, none, none, none] [] k (am_pV (stQ F n m ad h r) no_x) := by
  refine vc_189_374 tt _ _ _ _ ⟨y.1.1, _, _, ct_mneed y rfl, fun k1 w1 => ⟨w1.1.1.1, _, _, ct_mneed w1.1 rfl, fun k2 w2 => ?_, fun _ _ z => z.elim⟩, fun _ _ z => z.elim⟩
  unfold kS5 at hr
  rw [bs_n (), bs_n ()] at hr
  have ok : ∀ v' p', r = .ok (v', p') → v' = v ∧ isOk s = true := by
    intro v' p' z
    rw [hr] at z
    generalize e : st (bs (st (bs s fun p => tX F n p 0)) fun p => tX F n p 0) = s2 at z
    cases s2 with
    | error e => cases z
    | ok q =>
      cases z
      exact ⟨rfl, ok_b (ok_b (by rw [e]; rfl))⟩
  have es : st r = st (bs (st (bs s fun p => tX F n p 0)) fun p => tX F n p 0) := by
    rw [hr]
    generalize st (bs (st (bs s fun p => tX F n p 0)) fun p => tX F n p 0) = s2
    cases s2 with
    | error e => rfl
    | ok q => rfl
  refine ⟨by rw [es]; exact w2.1, g.tr ((w1.2.tr w2.2).mo (fun _ z => z.elim) (fun _ z => by omega)), fun v' p' z => ?_⟩
  obtain ⟨rfl, q⟩ := ok v' p' z
  exact (hv q).mo (w1.2.tr w2.2) (fun _ _ _ z => z) (by omega) (by omega)
theorem st_340 {r : Except pe (ST × Nat)} {B : Nat} {pk : Nat → Nat} {fo : Nat → FO} {x : FI} (y : MY F n k m ad s) (g : mg m ad Xst Yst h k) (hr : r = bs s (kSc F n B pk fo x)) (x24 : isOk s = true → x.1 ≤ 24) (hv : isOk s = true → am_I k 10 30 m = Int32.ofNat B ∧ pkR ad B pk k ∧ foR ad B fo k ∧ am_I k 10 29 m = Int32.ofNat x.1 ∧ fiR ad x k) : am_Ev tt 189 340 [some (.ref m), none, none, none, none, some (.int (Int32.ofNat 0)), none, none] [] k (am_pV (stQ F n m ad h r) no_x) := by
  have bad : ∀ (e : pe) (k : am_H) (i : Int32), MY F n k m ad (.error e) → mg m ad Xst Yst h k → r = .error e → am_Ev tt 189 340 [some (.ref m), none, none, none, none, some (.int i), none, none] [] k (am_pV (stQ F n m ad h r) no_x) := by
    intro e k i y g er
    have nx : am_Ev tt 189 374 [some (.ref m), none, none, none, none, none, none, none] [] k (am_pV (stQ F n m ad h r) no_x) := st_374 (v := ST0) y g er (fun z => by cases z)
    refine vc_189_340 tt _ _ _ _ _ ⟨y.1.1, fun _ => nx, fun _ => ⟨y.1.1, _, _, ct_mfine y, fun z k2 e2 => ?_, fun _ _ z => z.elim⟩⟩
    obtain ⟨rfl, rfl⟩ := e2
    exact ⟨fun _ => nx, fun z => absurd rfl z⟩
  cases s with
  | error e => exact bad e k _ y g hr
  | ok p =>
    have x24 := x24 rfl
    have hv := hv rfl
    have hr : r = bd (lCk F n x.1 0 p (fun _ => Int64.ofNat 0)) fun c p => kS5 F n (B, pk, fo, x, c) p := hr
    have key : ∀ (d i : Nat) (k : am_H) (q : Nat) (c : Nat → Int64), d + i = x.1 → MY F n k m ad (.ok q) → mg m ad Xst Yst h k → (am_I k 10 30 m = Int32.ofNat B ∧ pkR ad B pk k ∧ foR ad B fo k ∧ am_I k 10 29 m = Int32.ofNat x.1 ∧ fiR ad x k) → (∀ f, f < i → am_B k (ad 40) f = c f) → r = bd (lCk F n d i q c) (fun c p => kS5 F n (B, pk, fo, x, c) p) → am_Ev tt 189 340 [some (.ref m), none, none, none, none, some (.int (Int32.ofNat i)), none, none] [] k (am_pV (stQ F n m ad h r) no_x) := by
      intro d
      induction d with
      | zero =>
        intro i k q c ei y g hv hc hr
        have : i = x.1 := by omega
        subst this
        have kk := y.1.1
        have e29 := hv.2.2.2.1
        refine vc_189_340 tt _ _ _ _ _ ?_
        simp (disch := omega) only [kk, e29, qi_lt, qi_le, qi_eq, qi_nn, qi_in, qi_add, qi_l, ql_i, ql_lt, ql_le, ql_eq, ql_add, qc_lt, qc_eq, qc_ge, qc_gt, qc_le, true_and, and_true, and_self, true_or, or_true, false_or, or_false, false_and, and_false, not_true_eq_false, not_false_eq_true, Classical.not_not, true_implies, false_implies, implies_true, exists_eq_left, exists_eq_left', Option.some.injEq, reduceIte, Nat.reduceEqDiff, Nat.reduceLT, Nat.reduceLeDiff, Nat.reduceAdd, Nat.reduceSub, Nat.reduceMul, eq_self, ne_eq, and_imp, forall_const, reduceCtorEq, am_w, List.map_cons, List.map_nil, List.sum_cons, List.sum_nil, Value.category, Nat.zero_le, Nat.le_refl]
        exact st_374 (v := (B, pk, fo, x, c)) y g hr (fun _ => ⟨hv.1, hv.2.1, hv.2.2.1, hv.2.2.2.1, hv.2.2.2.2, hc⟩)
      | succ d ih =>
        intro i k q c ei y g hv hc hr
        have kk := y.1.1
        have e29 := hv.2.2.2.1
        have q1 : ¬ x.1 ≤ i := by omega
        have i24 : i < 24 := by omega
        refine vc_189_340 tt _ _ _ _ _ ?_
        simp (disch := omega) only [kk, e29, q1, qi_lt, qi_le, qi_eq, qi_nn, qi_in, qi_add, qi_l, ql_i, ql_lt, ql_le, ql_eq, ql_add, qc_lt, qc_eq, qc_ge, qc_gt, qc_le, true_and, and_true, and_self, true_or, or_true, false_or, or_false, false_and, and_false, not_true_eq_false, not_false_eq_true, Classical.not_not, true_implies, false_implies, implies_true, exists_eq_left, exists_eq_left', Option.some.injEq, reduceIte, Nat.reduceEqDiff, Nat.reduceLT, Nat.reduceLeDiff, Nat.reduceAdd, Nat.reduceSub, Nat.reduceMul, eq_self, ne_eq, and_imp, forall_const, reduceCtorEq, am_w, List.map_cons, List.map_nil, List.sum_cons, List.sum_nil, Value.category, Nat.zero_le, Nat.le_refl]
        refine ⟨_, _, ct_mfine y, fun z k2 e2 => ?_, fun _ _ z => z.elim⟩
        obtain ⟨rfl, rfl⟩ := e2
        obtain ⟨b1, b2, b3⟩ := md_r y.1 (k := 40) (by decide) rfl (by decide)
        refine ⟨fun z => absurd z (show ¬ Int32.ofNat 1 = Int32.ofNat 0 by decide), fun _ => ⟨kk, _, b1, kk, _, _, ct_mtakeLittle y (by omega) rfl, fun v k3 e3 => ?_, fun _ _ z => z.elim⟩⟩
        obtain ⟨y3, g3, v3⟩ := e3
        have y3 : MY F n k3 m ad (st (tL F n q 4)) := y3
        have v3 : ∀ a p', tL F n q 4 = .ok (a, p') → v = a := v3
        obtain ⟨c1, c2, c3⟩ := md_r y3.1 (k := 40) (by decide) rfl (by decide)
        simp (disch := omega) only [c2, c3, i24, qi_lt, qi_le, qi_eq, qi_nn, qi_in, qi_add, qi_l, ql_i, ql_lt, ql_le, ql_eq, ql_add, qc_lt, qc_eq, qc_ge, qc_gt, qc_le, true_and, and_true, and_self, true_or, or_true, false_or, or_false, false_and, and_false, not_true_eq_false, not_false_eq_true, Classical.not_not, true_implies, false_implies, implies_true, exists_eq_left, exists_eq_left', Option.some.injEq, reduceIte, Nat.reduceEqDiff, Nat.reduceLT, Nat.reduceLeDiff, Nat.reduceAdd, Nat.reduceSub, Nat.reduceMul, eq_self, ne_eq, and_imp, forall_const, reduceCtorEq, am_w, List.map_cons, List.map_nil, List.sum_cons, List.sum_nil, Value.category, Nat.zero_le, Nat.le_refl]
        have s1 : mg m ad (fun k => k = 40) Yz k3 (am_sB k3 (ad 40) i v) := mg.sB y3.1 rfl
        have y4 := y3.on s1 (by omega) id id id id
        have g4 : mg m ad (fun k => k = 40) Yq k2 (am_sB k3 (ad 40) i v) := (g3.mo (fun _ z => z.elim) (fun _ z => z)).tr (s1.mo (fun _ z => z) (fun _ z => z.elim))
        have gg : mg m ad Xst Yst h (am_sB k3 (ad 40) i v) := g.tr (g4.mo (fun _ z => by omega) (fun _ z => by omega))
        rw [lCk] at hr
        cases e1 : tL F n q 4 with
        | error e =>
          rw [e1] at y4 hr
          exact bad e _ _ y4 gg hr
        | ok a =>
          obtain ⟨a, q'⟩ := a
          have ev := v3 _ _ e1
          subst ev
          rw [e1] at y4 hr
          refine ih (i + 1) _ q' _ (by omega) y4 gg ⟨by rw [(g4.2.2 30 (by omega)).1]; exact hv.1, hv.2.1.mo g4 (by omega), hv.2.2.1.mo g4 (fun r _ _ => by omega), by rw [(g4.2.2 29 (by omega)).1]; exact hv.2.2.2.1, hv.2.2.2.2.mo g4 (by omega) (by omega)⟩ (fun f hf => ?_) hr
          unfold va_up
          by_cases cf : f = i
          · subst cf
            simp only [am_hs, true_and, and_true, and_self, true_or, or_true, false_or, or_false, false_and, and_false, not_true_eq_false, not_false_eq_true, Classical.not_not, true_implies, false_implies, implies_true, exists_eq_left, exists_eq_left', Option.some.injEq, reduceIte, Nat.reduceEqDiff, Nat.reduceLT, Nat.reduceLeDiff, Nat.reduceAdd, Nat.reduceSub, Nat.reduceMul, eq_self, ne_eq, and_imp, forall_const, reduceCtorEq, am_w, List.map_cons, List.map_nil, List.sum_cons, List.sum_nil, Value.category, Nat.zero_le, Nat.le_refl]
          · simp (disch := omega) only [am_hs, cf, true_and, and_true, and_self, true_or, or_true, false_or, or_false, false_and, and_false, not_true_eq_false, not_false_eq_true, Classical.not_not, true_implies, false_implies, implies_true, exists_eq_left, exists_eq_left', Option.some.injEq, reduceIte, Nat.reduceEqDiff, Nat.reduceLT, Nat.reduceLeDiff, Nat.reduceAdd, Nat.reduceSub, Nat.reduceMul, eq_self, ne_eq, and_imp, forall_const, reduceCtorEq, am_w, List.map_cons, List.map_nil, List.sum_cons, List.sum_nil, Value.category, Nat.zero_le, Nat.le_refl]
            rw [(g3.2.1 40 (fun z => z)).2]
            exact hc f (by omega)
    exact key x.1 0 k p _ (by omega) y g hv (fun f hf => absurd hf (by omega)) hr
theorem pFX_24 {B : Nat} (hB : B ≤ 6) {g : Nat → Nat} (hg : ∀ b, b < B → 1 ≤ g b ∧ g b ≤ 2400) {p : Nat} {x : FI} {p' : Nat} (h : pFX F n B g p = .ok (x, p')) : x.1 ≤ 24 := by
  unfold pFX at h
  obtain ⟨t, _, _, e2⟩ := bd_inv h
  have fin : ∀ (fc : Nat → Nat) (q : Nat), (∀ b, b < B → 1 ≤ fc b ∧ fc b ≤ 24) → sm fc B 0 ≤ 24 → lFs F n g fc B 0 q FI0 = .ok (x, p') → x.1 ≤ 24 := by
    intro fc q hf hs e
    obtain ⟨r1, r2, r3⟩ := lFs_v hg hf B 0 q FI0 e (by omega) (fun f hf => absurd hf (Nat.not_lt_zero f))
    rw [r2]; show 0 + _ ≤ 24; omega
  split at e2
  · obtain ⟨sf, q3, e3, e2⟩ := bd_inv e2
    split at e2
    · cases e2
    · obtain ⟨_, q4, _, e2⟩ := bd_inv e2
      have := lFc_v B 0 _ 0 _ e3 (fun j hj => absurd hj (Nat.not_lt_zero j)) rfl (by omega)
      rw [Nat.zero_add] at this
      exact fin _ _ this.1 (by omega) e2
  · have lf := sm_le (f := fun _ => 1) 1 B 0 (fun j _ _ => Nat.le_refl 1)
    exact fin _ _ (fun b hb => ⟨Nat.le_refl 1, by omega⟩) (by omega) e2
theorem st_311 {r : Except pe (ST × Nat)} {B : Nat} (hB : B ≤ 6) {pk : Nat → Nat} {fo : Nat → FO} {gv : Nat → Nat} (y : MY F n k m ad s) (g : mg m ad Xst Yst h k) (e30 : am_I k 10 30 m = Int32.ofNat B) (hr : r = bs s (kS4 F n B pk fo gv)) (hv : isOk s = true → pkR ad B pk k ∧ foR ad B fo k ∧ ∀ f, f < B → am_A k (ad 32) f = Int32.ofNat (gv f) ∧ 1 ≤ gv f ∧ gv f ≤ 2400) : am_Ev tt 189 311 [some (.ref m), none, none, none, none, none, none, none] [] k (am_pV (stQ F n m ad h r) no_x) := by
  unfold kS4 at hr
  rw [bs_n (), bs_n (), bs_n FI0, bs_n (), bs_n ()] at hr
  refine vc_189_311 tt _ _ _ _ ⟨y.1.1, _, _, ct_mneed y rfl, fun k1 w1 => ⟨w1.1.1.1, _, _, ct_mneed w1.1 rfl, fun k2 w2 => ?_, fun _ _ z => z.elim⟩, fun _ _ z => z.elim⟩
  have g12 := w1.2.tr w2.2
  have e30' : am_I k2 10 30 m = Int32.ofNat B := by rw [(g12.2.2 30 (by omega)).1]; exact e30
  refine ⟨w2.1.1.1, _, _, ct_rparts w2.1 hB e30' (g := gv) (fun p z b hb => ?_) rfl, fun k3 w3 => ⟨w3.1.1.1, _, _, ct_mneed w3.1 rfl, fun k4 w4 => ⟨w4.1.1.1, _, _, ct_mneed w4.1 rfl, fun k5 w5 => ?_, fun _ _ z => z.elim⟩, fun _ _ z => z.elim⟩, fun _ _ z => z.elim⟩
  · have q := hv (ok_b (ok_b (by rw [z]; rfl)))
    rw [(g12.2.1 32 (fun z => z)).1]
    exact q.2.2 b hb
  · refine vc_189_337 tt _ _ _ _ ?_
    have g45 := w4.2.tr w5.2
    have g1a : mg m ad Xpa Ypa k k5 := (g12.mo (fun _ z => z.elim) (fun _ z => by omega)).tr (w3.2.1.tr (g45.mo (fun _ z => z.elim) (fun _ z => by omega)))
    refine st_340 w5.1 (g.tr (g1a.mo (fun _ z => by omega) (fun _ z => by omega))) hr (fun z => ?_) (fun z => ?_)
    · obtain ⟨p, e⟩ := ok_v FI0 (ok_b (ok_b z))
      have q := hv (ok_b (ok_b (ok_b (ok_b (ok_b z)))))
      generalize ex : vl (bs (st (bs (st (bs s fun p => tX F n p 0)) fun p => tX F n p 8)) (pFX F n B gv)) FI0 = x at e
      have e' := e
      cases hs : st (bs (st (bs s fun p => tX F n p 0)) fun p => tX F n p 8) with
      | error e2 => rw [hs] at e'; cases e'
      | ok p2 =>
        rw [hs] at e'
        exact pFX_24 hB (fun b hb => (q.2.2 b hb).2) e'
    · obtain ⟨p, e⟩ := ok_v FI0 (ok_b (ok_b z))
      have q := hv (ok_b (ok_b (ok_b (ok_b (ok_b z)))))
      obtain ⟨q29, qx⟩ := w3.2.2 _ p e
      exact ⟨by rw [(g1a.2.2 30 (by omega)).1]; exact e30, q.1.mo g1a (by omega), q.2.1.mo g1a (fun r _ _ => by omega), by rw [(g45.2.2 29 (by omega)).1]; exact q29, qx.mo g45 (fun z => z) (fun z => z)⟩
end MST
