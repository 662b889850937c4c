/-! deps: 18e -/
/-! ===== the reference's call: write ===== -/
/-! 174 yX10_write -/
theorem vc_174_0 (tt : Nat → Nat) (a0 : Nat) (h : am_H) (Q : Int32 → am_H → Prop) (Qx : String → am_H → Prop) (q :
  (am_K h a0 = 11 ∧
  am_Ev tt 174 7 [some (.ref a0), some (.int (Int32.ofNat 0)), none, none, none] [] (am_sI h 10 0 a0 (Int32.ofNat 0)) (am_pI Q Qx))) :
  am_Ev tt 174 0 [some (.ref a0), none, none, none, none] [] h (am_pI Q Qx) := am_vc 8 [(7, [true, true, false, false, false]), (32, [false, false, false, false, false]), (47, [true, true, true, true, false]), (75, [true, true, true, true, false]), (91, [true, true, true, true, false]), (97, [true, true, true, false, false]), (108, [true, true, true, true, false]), (127, [true, true, true, true, false]), (173, [true, true, false, true, false]), (183, [true, false, false, true, false]), (207, [true, false, false, true, true]), (239, [true, false, false, true, true]), (265, [true, false, false, true, false])] q
theorem vc_174_7 (tt : Nat → Nat) (a0 : Nat) (a1 : Int32) (h : am_H) (Q : Int32 → am_H → Prop) (Qx : String → am_H → Prop) (q :
  (am_K h a0 = 11 ∧
  (((am_I h 10 1 a0) ≤ a1 →
   am_Ev tt 174 47 [some (.ref a0), some (.int (Int32.ofNat 0)), some (.int (Int32.ofNat 0)), some (.int (Int32.ofNat 0)), none] [] h (am_pI Q Qx)) ∧
  (¬ ((am_I h 10 1 a0) ≤ a1) →
   (am_K h a0 = 11 ∧ ∃ q1, am_R h 10 3 a0 = some q1 ∧
   ((am_K h q1 = 21 ∨ am_K h q1 = 31) ∧ vp_in a1 (am_N h q1) ∧
   (((am_A h q1 (a1).toNatClampNeg) = (Int32.ofNat 0) →
    am_Ev tt 174 32 [none, none, none, none, none] [] h (am_pI Q Qx)) ∧
   (¬ ((am_A h q1 (a1).toNatClampNeg) = (Int32.ofNat 0)) →
    (am_K h a0 = 11 ∧ ∃ (Q3 : Int32 → am_H → Prop) (X3 : String → am_H → Prop), am_Ct tt 143 [.ref a0, .int a1] h (am_pI Q3 X3) ∧ (∀ x4 h2, Q3 x4 h2 →
     ((x4 = (Int32.ofNat 0) →
      am_Ev tt 174 7 [some (.ref a0), some (.int (a1 + (Int32.ofNat 1))), none, none, none] [] h2 (am_pI Q Qx)) ∧
     (¬ (x4 = (Int32.ofNat 0)) →
      am_Ev tt 174 32 [none, none, none, none, none] [] h2 (am_pI Q Qx)))) ∧ (∀ E5 h2, X3 E5 h2 → Qx E5 h2)))))))))) :
  am_Ev tt 174 7 [some (.ref a0), some (.int a1), none, none, none] [] h (am_pI Q Qx) := am_vc 18 [(7, [true, true, false, false, false]), (32, [false, false, false, false, false]), (47, [true, true, true, true, false]), (75, [true, true, true, true, false]), (91, [true, true, true, true, false]), (97, [true, true, true, false, false]), (108, [true, true, true, true, false]), (127, [true, true, true, true, false]), (173, [true, true, false, true, false]), (183, [true, false, false, true, false]), (207, [true, false, false, true, true]), (239, [true, false, false, true, true]), (265, [true, false, false, true, false])] q
theorem vc_174_32 (tt : Nat → Nat)  (h : am_H) (Q : Int32 → am_H → Prop) (Qx : String → am_H → Prop) (q :
  Q (-3 : Int32) h) :
  am_Ev tt 174 32 [none, none, none, none, none] [] h (am_pI Q Qx) := am_vc 4 [(7, [true, true, false, false, false]), (32, [false, false, false, false, false]), (47, [true, true, true, true, false]), (75, [true, true, true, true, false]), (91, [true, true, true, true, false]), (97, [true, true, true, false, false]), (108, [true, true, true, true, false]), (127, [true, true, true, true, false]), (173, [true, true, false, true, false]), (183, [true, false, false, true, false]), (207, [true, false, false, true, true]), (239, [true, false, false, true, true]), (265, [true, false, false, true, false])] q
theorem vc_174_47 (tt : Nat → Nat) (a0 : Nat) (a1 : Int32) (a2 : Int32) (a3 : Int32) (h : am_H) (Q : Int32 → am_H → Prop) (Qx : String → am_H → Prop) (q :
  (((Int32.ofNat 6) ≤ a3 →
   am_Ev tt 174 97 [some (.ref a0), some (.int a1), some (.int a2), none, none] [] h (am_pI Q Qx)) ∧
  (¬ ((Int32.ofNat 6) ≤ a3) →
   (am_K h a0 = 11 ∧ ∃ (Q2 : Int32 → am_H → Prop) (X2 : String → am_H → Prop), am_Ct tt 165 [.ref a0, .int a3] h (am_pI Q2 X2) ∧ (∀ x3 h1, Q2 x3 h1 →
    ((x3 ≤ (Int32.ofNat 2400) →
     (am_K h1 a0 = 11 ∧ ∃ (Q5 : Int32 → am_H → Prop) (X5 : String → am_H → Prop), am_Ct tt 164 [.ref a0, .int a3] h1 (am_pI Q5 X5) ∧ (∀ x6 h4, Q5 x6 h4 →
      am_Ev tt 174 75 [some (.ref a0), some (.int (a1 + x6)), some (.int a2), some (.int a3), none] [] h4 (am_pI Q Qx)) ∧ (∀ E7 h4, X5 E7 h4 → Qx E7 h4))) ∧
    (¬ (x3 ≤ (Int32.ofNat 2400)) →
     Q (-4 : Int32) h1))) ∧ (∀ E8 h1, X2 E8 h1 → Qx E8 h1))))) :
  am_Ev tt 174 47 [some (.ref a0), some (.int a1), some (.int a2), some (.int a3), none] [] h (am_pI Q Qx) := am_vc 17 [(7, [true, true, false, false, false]), (32, [false, false, false, false, false]), (47, [true, true, true, true, false]), (75, [true, true, true, true, false]), (91, [true, true, true, true, false]), (97, [true, true, true, false, false]), (108, [true, true, true, true, false]), (127, [true, true, true, true, false]), (173, [true, true, false, true, false]), (183, [true, false, false, true, false]), (207, [true, false, false, true, true]), (239, [true, false, false, true, true]), (265, [true, false, false, true, false])] q
theorem vc_174_75 (tt : Nat → Nat) (a0 : Nat) (a1 : Int32) (a2 : Int32) (a3 : Int32) (h : am_H) (Q : Int32 → am_H → Prop) (Qx : String → am_H → Prop) (q :
  (am_K h a0 = 11 ∧ ∃ (Q2 : Int32 → am_H → Prop) (X2 : String → am_H → Prop), am_Ct tt 164 [.ref a0, .int a3] h (am_pI Q2 X2) ∧ (∀ x3 h1, Q2 x3 h1 →
   ((x3 ≤ (Int32.ofNat 0) →
    am_Ev tt 174 91 [some (.ref a0), some (.int a1), some (.int (a2 + (Int32.ofNat 0))), some (.int a3), none] [] h1 (am_pI Q Qx)) ∧
   (¬ (x3 ≤ (Int32.ofNat 0)) →
    am_Ev tt 174 91 [some (.ref a0), some (.int a1), some (.int (a2 + (Int32.ofNat 1))), some (.int a3), none] [] h1 (am_pI Q Qx)))) ∧ (∀ E4 h1, X2 E4 h1 → Qx E4 h1))) :
  am_Ev tt 174 75 [some (.ref a0), some (.int a1), some (.int a2), some (.int a3), none] [] h (am_pI Q Qx) := am_vc 12 [(7, [true, true, false, false, false]), (32, [false, false, false, false, false]), (47, [true, true, true, true, false]), (75, [true, true, true, true, false]), (91, [true, true, true, true, false]), (97, [true, true, true, false, false]), (108, [true, true, true, true, false]), (127, [true, true, true, true, false]), (173, [true, true, false, true, false]), (183, [true, false, false, true, false]), (207, [true, false, false, true, true]), (239, [true, false, false, true, true]), (265, [true, false, false, true, false])] q
theorem vc_174_91 (tt : Nat → Nat) (a0 : Nat) (a1 : Int32) (a2 : Int32) (a3 : Int32) (h : am_H) (Q : Int32 → am_H → Prop) (Qx : String → am_H → Prop) (q :
  am_Ev tt 174 47 [some (.ref a0), some (.int a1), some (.int a2), some (.int (a3 + (Int32.ofNat 1))), none] [] h (am_pI Q Qx)) :
  am_Ev tt 174 91 [some (.ref a0), some (.int a1), some (.int a2), some (.int a3), none] [] h (am_pI Q Qx) := am_vc 5 [(7, [true, true, false, false, false]), (32, [false, false, false, false, false]), (47, [true, true, true, true, false]), (75, [true, true, true, true, false]), (91, [true, true, true, true, false]), (97, [true, true, true, false, false]), (108, [true, true, true, true, false]), (127, [true, true, true, true, false]), (173, [true, true, false, true, false]), (183, [true, false, false, true, false]), (207, [true, false, false, true, true]), (239, [true, false, false, true, true]), (265, [true, false, false, true, false])] q
theorem vc_174_97 (tt : Nat → Nat) (a0 : Nat) (a1 : Int32) (a2 : Int32) (h : am_H) (Q : Int32 → am_H → Prop) (Qx : String → am_H → Prop) (q :
  (am_K h a0 = 11 ∧ ∃ (Q2 : am_H → Prop) (X2 : String → am_H → Prop), am_Ct tt 166 [.ref a0] h (am_pV Q2 X2) ∧ (∀ h1, Q2 h1 →
   (am_K h1 a0 = 11 ∧
   am_Ev tt 174 108 [some (.ref a0), some (.int a1), some (.int a2), some (.int (Int32.ofNat 0)), none] [] (am_sI h1 10 24 a0 (Int32.ofNat 0)) (am_pI Q Qx))) ∧ (∀ E3 h1, X2 E3 h1 → Qx E3 h1))) :
  am_Ev tt 174 97 [some (.ref a0), some (.int a1), some (.int a2), none, none] [] h (am_pI Q Qx) := am_vc 10 [(7, [true, true, false, false, false]), (32, [false, false, false, false, false]), (47, [true, true, true, true, false]), (75, [true, true, true, true, false]), (91, [true, true, true, true, false]), (97, [true, true, true, false, false]), (108, [true, true, true, true, false]), (127, [true, true, true, true, false]), (173, [true, true, false, true, false]), (183, [true, false, false, true, false]), (207, [true, false, false, true, true]), (239, [true, false, false, true, true]), (265, [true, false, false, true, false])] q
theorem vc_174_108 (tt : Nat → Nat) (a0 : Nat) (a1 : Int32) (a2 : Int32) (a3 : Int32) (h : am_H) (Q : Int32 → am_H → Prop) (Qx : String → am_H → Prop) (q :
  (((Int32.ofNat 32) ≤ a3 →
   am_Ev tt 174 127 [some (.ref a0), some (.int a1), some (.int a2), some (.int (Int32.ofNat 0)), none] [] h (am_pI Q Qx)) ∧
  (¬ ((Int32.ofNat 32) ≤ a3) →
   (am_K h a0 = 11 ∧ ∃ (Q2 : am_H → Prop) (X2 : String → am_H → Prop), am_Ct tt 159 [.ref a0, .int (Int32.ofNat 0)] h (am_pV Q2 X2) ∧ (∀ h1, Q2 h1 →
    am_Ev tt 174 108 [some (.ref a0), some (.int a1), some (.int a2), some (.int (a3 + (Int32.ofNat 1))), none] [] h1 (am_pI Q Qx)) ∧ (∀ E3 h1, X2 E3 h1 → Qx E3 h1))))) :
  am_Ev tt 174 108 [some (.ref a0), some (.int a1), some (.int a2), some (.int a3), none] [] h (am_pI Q Qx) := am_vc 11 [(7, [true, true, false, false, false]), (32, [false, false, false, false, false]), (47, [true, true, true, true, false]), (75, [true, true, true, true, false]), (91, [true, true, true, true, false]), (97, [true, true, true, false, false]), (108, [true, true, true, true, false]), (127, [true, true, true, true, false]), (173, [true, true, false, true, false]), (183, [true, false, false, true, false]), (207, [true, false, false, true, true]), (239, [true, false, false, true, true]), (265, [true, false, false, true, false])] q
theorem vc_174_127 (tt : Nat → Nat) (a0 : Nat) (a1 : Int32) (a2 : Int32) (a3 : Int32) (h : am_H) (Q : Int32 → am_H → Prop) (Qx : String → am_H → Prop) (q :
  (((Int32.ofNat 6) ≤ a3 →
   (am_K h a0 = 11 ∧
   (am_K h a0 = 11 ∧
   (((am_I h 10 1 a0) ≤ (Int32.ofNat 0) →
    am_Ev tt 174 183 [some (.ref a0), none, none, some (.int ((am_I h 10 24 a0) - (Int32.ofNat 32))), none] [] h (am_pI Q Qx)) ∧
   (¬ ((am_I h 10 1 a0) ≤ (Int32.ofNat 0)) →
    (am_K h a0 = 11 ∧ ∃ (Q2 : am_H → Prop) (X2 : String → am_H → Prop), am_Ct tt 159 [.ref a0, .int (Int32.ofNat 1)] h (am_pV Q2 X2) ∧ (∀ h1, Q2 h1 →
     ((a1 ≤ (Int32.ofNat 0) →
      am_Ev tt 174 173 [some (.ref a0), some (.int a1), none, some (.int ((am_I h 10 24 a0) - (Int32.ofNat 32))), none] [] h1 (am_pI Q Qx)) ∧
     (¬ (a1 ≤ (Int32.ofNat 0)) →
      (am_K h1 a0 = 11 ∧ ∃ (Q4 : am_H → Prop) (X4 : String → am_H → Prop), am_Ct tt 170 [.ref a0, .int a2] h1 (am_pV Q4 X4) ∧ (∀ h3, Q4 h3 →
       am_Ev tt 174 173 [some (.ref a0), some (.int a1), none, some (.int ((am_I h 10 24 a0) - (Int32.ofNat 32))), none] [] h3 (am_pI Q Qx)) ∧ (∀ E5 h3, X4 E5 h3 → Qx E5 h3))))) ∧ (∀ E6 h1, X2 E6 h1 → Qx E6 h1))))))) ∧
  (¬ ((Int32.ofNat 6) ≤ a3) →
   (am_K h a0 = 11 ∧ ∃ (Q8 : am_H → Prop) (X8 : String → am_H → Prop), am_Ct tt 167 [.ref a0, .int a3] h (am_pV Q8 X8) ∧ (∀ h7, Q8 h7 →
    am_Ev tt 174 127 [some (.ref a0), some (.int a1), some (.int a2), some (.int (a3 + (Int32.ofNat 1))), none] [] h7 (am_pI Q Qx)) ∧ (∀ E9 h7, X8 E9 h7 → Qx E9 h7))))) :
  am_Ev tt 174 127 [some (.ref a0), some (.int a1), some (.int a2), some (.int a3), none] [] h (am_pI Q Qx) := am_vc 22 [(7, [true, true, false, false, false]), (32, [false, false, false, false, false]), (47, [true, true, true, true, false]), (75, [true, true, true, true, false]), (91, [true, true, true, true, false]), (97, [true, true, true, false, false]), (108, [true, true, true, true, false]), (127, [true, true, true, true, false]), (173, [true, true, false, true, false]), (183, [true, false, false, true, false]), (207, [true, false, false, true, true]), (239, [true, false, false, true, true]), (265, [true, false, false, true, false])] q
theorem vc_174_173 (tt : Nat → Nat) (a0 : Nat) (a1 : Int32) (a3 : Int32) (h : am_H) (Q : Int32 → am_H → Prop) (Qx : String → am_H → Prop) (q :
  (am_K h a0 = 11 ∧ ∃ (Q2 : am_H → Prop) (X2 : String → am_H → Prop), am_Ct tt 173 [.ref a0, .int a1] h (am_pV Q2 X2) ∧ (∀ h1, Q2 h1 →
   (am_K h1 a0 = 11 ∧ ∃ (Q4 : am_H → Prop) (X4 : String → am_H → Prop), am_Ct tt 159 [.ref a0, .int (Int32.ofNat 0)] h1 (am_pV Q4 X4) ∧ (∀ h3, Q4 h3 →
    am_Ev tt 174 183 [some (.ref a0), none, none, some (.int a3), none] [] h3 (am_pI Q Qx)) ∧ (∀ E5 h3, X4 E5 h3 → Qx E5 h3))) ∧ (∀ E6 h1, X2 E6 h1 → Qx E6 h1))) :
  am_Ev tt 174 173 [some (.ref a0), some (.int a1), none, some (.int a3), none] [] h (am_pI Q Qx) := am_vc 9 [(7, [true, true, false, false, false]), (32, [false, false, false, false, false]), (47, [true, true, true, true, false]), (75, [true, true, true, true, false]), (91, [true, true, true, true, false]), (97, [true, true, true, false, false]), (108, [true, true, true, true, false]), (127, [true, true, true, true, false]), (173, [true, true, false, true, false]), (183, [true, false, false, true, false]), (207, [true, false, false, true, true]), (239, [true, false, false, true, true]), (265, [true, false, false, true, false])] q
theorem vc_174_183 (tt : Nat → Nat) (a0 : Nat) (a3 : Int32) (h : am_H) (Q : Int32 → am_H → Prop) (Qx : String → am_H → Prop) (q :
  (am_K h a0 = 11 ∧
  (((am_I h 10 24 a0) ≤ (Int32.ofNat 5000) →
   (am_K h a0 = 11 ∧
   (am_K h a0 = 11 ∧
   am_Ev tt 174 207 [some (.ref a0), none, none, some (.int a3), some (.int (Int32.ofNat 0))] [] (am_sI h 10 19 a0 (am_I h 10 24 a0)) (am_pI Q Qx)))) ∧
  (¬ ((am_I h 10 24 a0) ≤ (Int32.ofNat 5000)) →
   Q (-4 : Int32) h)))) :
  am_Ev tt 174 183 [some (.ref a0), none, none, some (.int a3), none] [] h (am_pI Q Qx) := am_vc 13 [(7, [true, true, false, false, false]), (32, [false, false, false, false, false]), (47, [true, true, true, true, false]), (75, [true, true, true, true, false]), (91, [true, true, true, true, false]), (97, [true, true, true, false, false]), (108, [true, true, true, true, false]), (127, [true, true, true, true, false]), (173, [true, true, false, true, false]), (183, [true, false, false, true, false]), (207, [true, false, false, true, true]), (239, [true, false, false, true, true]), (265, [true, false, false, true, false])] q
theorem vc_174_207 (tt : Nat → Nat) (a0 : Nat) (a3 : Int32) (a4 : Int32) (h : am_H) (Q : Int32 → am_H → Prop) (Qx : String → am_H → Prop) (q :
  (am_K h a0 = 11 ∧
  (((am_I h 10 24 a0) ≤ a4 →
   am_Ev tt 174 239 [some (.ref a0), none, none, some (.int a3), some (.int (Int32.ofNat 0))] [] h (am_pI Q Qx)) ∧
  (¬ ((am_I h 10 24 a0) ≤ a4) →
   (am_K h a0 = 11 ∧ ∃ q1, am_R h 10 18 a0 = some q1 ∧
   (am_K h a0 = 11 ∧ ∃ q2, am_R h 10 23 a0 = some q2 ∧
   ((am_K h q2 = 23 ∨ am_K h q2 = 24) ∧ vp_in a4 (am_N h q2) ∧
   (vp_in a4 (am_N h q1) ∧ ∃ w3, ((am_K h q1 = 23 ∧ w3 = ((am_A h q2 (a4).toNatClampNeg)).toInt8.toInt32) ∨ (am_K h q1 = 24 ∧ w3 = ((am_A h q2 (a4).toNatClampNeg) &&& 1))) ∧
   am_Ev tt 174 207 [some (.ref a0), none, none, some (.int a3), some (.int (a4 + (Int32.ofNat 1)))] [] (am_sA h q1 (a4).toNatClampNeg w3) (am_pI Q Qx))))))))) :
  am_Ev tt 174 207 [some (.ref a0), none, none, some (.int a3), some (.int a4)] [] h (am_pI Q Qx) := am_vc 17 [(7, [true, true, false, false, false]), (32, [false, false, false, false, false]), (47, [true, true, true, true, false]), (75, [true, true, true, true, false]), (91, [true, true, true, true, false]), (97, [true, true, true, false, false]), (108, [true, true, true, true, false]), (127, [true, true, true, true, false]), (173, [true, true, false, true, false]), (183, [true, false, false, true, false]), (207, [true, false, false, true, true]), (239, [true, false, false, true, true]), (265, [true, false, false, true, false])] q
set_option maxRecDepth 4096 in
theorem vc_174_239 (tt : Nat → Nat) (a0 : Nat) (a3 : Int32) (a4 : Int32) (h : am_H) (Q : Int32 → am_H → Prop) (Qx : String → am_H → Prop) (q :
  (((Int32.ofNat 8) ≤ a4 →
   am_Ev tt 174 265 [some (.ref a0), none, none, some (.int a3), none] [] h (am_pI Q Qx)) ∧
  (¬ ((Int32.ofNat 8) ≤ a4) →
   (am_K h a0 = 11 ∧ ∃ q1, am_R h 10 18 a0 = some q1 ∧
   (∃ (Q3 : Int32 → am_H → Prop) (X3 : String → am_H → Prop), am_Ct tt 175 [.int a4] h (am_pI Q3 X3) ∧ (∀ x4 h2, Q3 x4 h2 →
    (vp_in a4 (am_N h2 q1) ∧ ∃ w5, ((am_K h2 q1 = 23 ∧ w5 = ((x4).toInt8.toInt32).toInt8.toInt32) ∨ (am_K h2 q1 = 24 ∧ w5 = ((x4).toInt8.toInt32 &&& 1))) ∧
    am_Ev tt 174 239 [some (.ref a0), none, none, some (.int a3), some (.int (a4 + (Int32.ofNat 1)))] [] (am_sA h2 q1 (a4).toNatClampNeg w5) (am_pI Q Qx))) ∧ (∀ E6 h2, X3 E6 h2 → Qx E6 h2)))))) :
  am_Ev tt 174 239 [some (.ref a0), none, none, some (.int a3), some (.int a4)] [] h (am_pI Q Qx) := am_vc 15 [(7, [true, true, false, false, false]), (32, [false, false, false, false, false]), (47, [true, true, true, true, false]), (75, [true, true, true, true, false]), (91, [true, true, true, true, false]), (97, [true, true, true, false, false]), (108, [true, true, true, true, false]), (127, [true, true, true, true, false]), (173, [true, true, false, true, false]), (183, [true, false, false, true, false]), (207, [true, false, false, true, true]), (239, [true, false, false, true, true]), (265, [true, false, false, true, false])] q
set_option maxRecDepth 4096 in
theorem vc_174_265 (tt : Nat → Nat) (a0 : Nat) (a3 : Int32) (h : am_H) (Q : Int32 → am_H → Prop) (Qx : String → am_H → Prop) (q :
  (am_K h a0 = 11 ∧ ∃ (Q2 : am_H → Prop) (X2 : String → am_H → Prop), am_Ct tt 154 [.ref a0, .int (Int32.ofNat 12), .long (a3).toInt64, .int (Int32.ofNat 8)] h (am_pV Q2 X2) ∧ (∀ h1, Q2 h1 →
   (am_K h1 a0 = 11 ∧
   (am_K h1 a0 = 11 ∧ ∃ (Q4 : am_H → Prop) (X4 : String → am_H → Prop), am_Ct tt 154 [.ref a0, .int (Int32.ofNat 20), .long ((((am_I h1 10 24 a0) - (Int32.ofNat 32)) - a3)).toInt64, .int (Int32.ofNat 8)] h1 (am_pV Q4 X4) ∧ (∀ h3, Q4 h3 →
    (am_K h3 a0 = 11 ∧ ∃ (Q6 : Int32 → am_H → Prop) (X6 : String → am_H → Prop), am_Ct tt 156 [.ref a0, .int (Int32.ofNat 1)] h3 (am_pI Q6 X6) ∧ (∀ x7 h5, Q6 x7 h5 →
     ((¬ x7 = (Int32.ofNat 1) →
      Q (Int32.ofNat 0) h5) ∧
     (¬ (¬ x7 = (Int32.ofNat 1)) →
      (am_K h5 a0 = 11 ∧
      Q (am_I h5 10 19 a0) h5)))) ∧ (∀ E8 h5, X6 E8 h5 → Qx E8 h5))) ∧ (∀ E9 h3, X4 E9 h3 → Qx E9 h3)))) ∧ (∀ E10 h1, X2 E10 h1 → Qx E10 h1))) :
  am_Ev tt 174 265 [some (.ref a0), none, none, some (.int a3), none] [] h (am_pI Q Qx) := am_vc 28 [(7, [true, true, false, false, false]), (32, [false, false, false, false, false]), (47, [true, true, true, true, false]), (75, [true, true, true, true, false]), (91, [true, true, true, true, false]), (97, [true, true, true, false, false]), (108, [true, true, true, true, false]), (127, [true, true, true, true, false]), (173, [true, true, false, true, false]), (183, [true, false, false, true, false]), (207, [true, false, false, true, true]), (239, [true, false, false, true, true]), (265, [true, false, false, true, false])] q

theorem nb_2 {k : Nat} : (nb k).length ≤ 2 := by unfold nb; split <;> simp
theorem nb_1 {k : Nat} (h : k < 128) : (nb k).length = 1 := by unfold nb; rw [if_pos h]; rfl
theorem fl_b {g : Nat → List Int32} {c : Nat} : ∀ {n : Nat}, (∀ i, i < n → (g i).length ≤ c) → ((R0 n).flatMap g).length ≤ c * n
  | 0, _ => Nat.zero_le _
  | n + 1, h => by
    have h1 := fl_b (g := g) (c := c) (n := n) (fun i hi => h i (by omega))
    have h2 := h n (by omega)
    rw [fm_s, List.length_append, Nat.mul_add]
    omega
theorem big_b {a : sA} : ∀ {n : Nat}, (∀ i, i < n → e_sz (a_E a i) ≤ 2400 ∧ (0 < e_sz (a_E a i) → a_kn a i = true)) → ∃ k, k ≤ n ∧ sbg a n ≤ 2400 * k ∧ su (fun i => e_sz (a_E a i)) (R0 n) + 120 * k ≤ sbg a n + 120 * n
  | 0, _ => ⟨0, by omega, by simp [sbg], by simp [sbg]; rfl⟩
  | n + 1, h => by
    obtain ⟨k, h1, h2, h3⟩ := big_b (a := a) (n := n) (fun i hi => h i (by omega))
    obtain ⟨z1, z2⟩ := h n (by omega)
    rw [su_s, sbg]
    by_cases c : 120 < e_sz (a_E a n)
    · rw [if_pos ⟨z2 (by omega), c⟩]
      exact ⟨k + 1, by omega, by omega, by omega⟩
    · rw [if_neg (fun w => c w.2)]
      exact ⟨k, by omega, by omega, by omega⟩
theorem sbo_su {E : Nat → sE} : ∀ {n : Nat}, (∀ i, i < n → e_hm (E i) < 6) → sbo E 0 n + sbo E 1 n + sbo E 2 n + sbo E 3 n + sbo E 4 n + sbo E 5 n = su (fun i => e_sz (E i)) (R0 n)
  | 0, _ => rfl
  | n + 1, h => by
    have ih := sbo_su (E := E) (n := n) (fun i hi => h i (by omega))
    have h6 := h n (by omega)
    rw [su_s, ← ih]
    simp only [sbo]
    have : e_hm (E n) = 0 ∨ e_hm (E n) = 1 ∨ e_hm (E n) = 2 ∨ e_hm (E n) = 3 ∨ e_hm (E n) = 4 ∨ e_hm (E n) = 5 := by omega
    rcases this with e | e | e | e | e | e <;> simp only [e, reduceIte, Nat.reduceEqDiff] <;> omega
theorem wP2_l {a : sA} (wf : wfA a) (w : wok a) : (wP2 a).length ≤ 7488 := by
  have e : (wP2 a).length = sbo (a_E a) 0 (a_n a) + sbo (a_E a) 1 (a_n a) + sbo (a_E a) 2 (a_n a) + sbo (a_E a) 3 (a_n a) + sbo (a_E a) 4 (a_n a) + sbo (a_E a) 5 (a_n a) := by
    rw [wP2, show (R0 6).flatMap (pk2 a) = pk2 a 0 ++ (pk2 a 1 ++ (pk2 a 2 ++ (pk2 a 3 ++ (pk2 a 4 ++ (pk2 a 5 ++ []))))) from rfl]
    simp only [List.length_append, List.length_nil, pk2_l, raw_n]
    omega
  rw [e, sbo_su (fun i hi => (wf.2.1 i hi).2.2.2)]
  obtain ⟨k, h1, h2, h3⟩ := big_b (a := a) (n := a_n a) (fun i hi => ⟨(wf.2.1 i hi).2.2.1, (w.1 i hi).2⟩)
  have := wf.1
  have := wf.2.2.2
  omega
theorem cform_l {k d : Int32} : (cform k d).length ≤ 4 := by
  unfold cform
  split
  · simp
  · split <;> simp
theorem cno_b {v : sB} (h : b_cn v ≤ 3) : 1 ≤ cno v ∧ cno v ≤ 3 := by unfold cno; split <;> omega
theorem fold_l {v : sB} (h : b_cn v ≤ 3) : (fold v).length ≤ 17 := by
  have hc := cno_b h
  have h1 := fl_b (g := fun c => if c < b_cn v then cform (b_ck v c) (b_cd v c) else cform (Int32.ofNat 0) (Int32.ofNat 0)) (c := 4) (n := cno v) (fun i hi => by split <;> exact cform_l)
  have h2 := fl_b (g := fun c => nb c ++ nb (c + 1)) (c := 2) (n := cno v - 1) (fun i hi => by simp only [List.length_append]; rw [nb_1 (by omega), nb_1 (by omega)]; omega)
  unfold fold
  rw [List.length_append, List.length_append, nb_1 (by omega)]
  omega
theorem wS_l {a : sA} (wf : wfA a) : (wS a).length ≤ 317 := by
  have n24 := wf.1
  have hk := kb_le (a := a)
  have hK := oK_le wf
  have h1 : (wSz a).length ≤ 2 * 6 := fl_b (fun i hi => by split; exact nb_2; simp)
  have h2 : (wFo a).length ≤ 17 * 6 := fl_b (fun i hi => by split; exact fold_l (wf.2.2.1 i hi).1; simp)
  have h3 : (wGi a).length ≤ 6 * 6 := fl_b (fun i hi => by
    split
    · have := fl_b (g := fun _ => nb (sbo (a_E a) i (a_n a))) (c := 2) (n := cno (a_B a i)) (fun _ _ => nb_2)
      have := cno_b (wf.2.2.1 i hi).1
      omega
    · simp)
  have h4 : (wFc a).length ≤ 1 * 6 := fl_b (fun i hi => by
    split
    · rw [nb_1 (by have := sfo_le (E := a_E a) (b := i) (n := a_n a); omega)]; omega
    · simp)
  have h5 : (wFs a).length ≤ 2 * ((oK a).length - 1) := fl_b (fun i hi => by split; exact nb_2; simp)
  have h6 : (wCk a).length ≤ 4 * (oK a).length := by
    unfold wCk
    rw [← fm_K]
    exact fl_b (fun i hi => by rw [LB_l]; omega)
  have h7 : ((if kb a < (oK a).length then [Int32.ofNat 13] ++ (wFc a ++ ([Int32.ofNat 9] ++ wFs a)) else []) : List Int32).length ≤ 54 := by
    split
    · simp only [List.length_append, List.length_cons, List.length_nil]; omega
    · simp
  rw [wS]
  simp only [List.length_append, List.length_cons, List.length_nil]
  rw [nb_1 (k := kb a) (by omega), nb_1 (k := 0) (by omega)]
  omega
theorem wRow_b {t k : Nat} {g : Nat → Bool} (h : k ≤ 24) : (wRow t k g).length ≤ 5 := by rw [wRow_l, nb_1 (by omega)]; omega
theorem wVal_b {a : sA} {t m : Nat} {v : Nat → Option Int64} (n24 : a_n a ≤ 24) : (wVal a t m v).length ≤ 8 + m * a_n a := by
  by_cases z : cn (fun j => (v j).isSome) (a_n a) = 0
  · rw [wVal, if_pos z]; simp
  · have e : wVal a t m v = [Int32.ofNat t] ++ (nb (2 + (if cn (fun j => (v j).isSome) (a_n a) = a_n a then 0 else (a_n a + 7) / 8) + m * cn (fun j => (v j).isSome) (a_n a)) ++ ([if cn (fun j => (v j).isSome) (a_n a) = a_n a then Int32.ofNat 1 else Int32.ofNat 0] ++ ((if cn (fun j => (v j).isSome) (a_n a) < a_n a then bbl (bgb (a_n a) (fun j => (v j).isSome)) (a_n a) else []) ++ ([Int32.ofNat 0] ++ (R0 (a_n a)).flatMap (fun j => match v j with
    | none => []
    | some x => LB m x))))) := by rw [wVal, if_neg z]; rfl
    have h1 := fl_b (g := fun j => match v j with
    | none => []
    | some x => LB m x) (c := m) (n := a_n a) (fun i hi => by
      split
      · simp
      · rw [LB_l]; exact Nat.le_refl _)
    have h2 := nb_2 (k := 2 + (if cn (fun j => (v j).isSome) (a_n a) = a_n a then 0 else (a_n a + 7) / 8) + m * cn (fun j => (v j).isSome) (a_n a))
    have h3 : ((if cn (fun j => (v j).isSome) (a_n a) < a_n a then bbl (bgb (a_n a) (fun j => (v j).isSome)) (a_n a) else []) : List Int32).length ≤ 3 := by
      split
      · rw [bbl_l]; omega
      · simp
    rw [e]
    simp only [List.length_append, List.length_cons, List.length_nil]
    generalize ((if cn (fun j => (v j).isSome) (a_n a) < a_n a then bbl (bgb (a_n a) (fun j => (v j).isSome)) (a_n a) else []) : List Int32).length = x3 at h3 ⊢
    generalize (nb (2 + (if cn (fun j => (v j).isSome) (a_n a) = a_n a then 0 else (a_n a + 7) / 8) + m * cn (fun j => (v j).isSome) (a_n a))).length = x2 at h2 ⊢
    generalize ((R0 (a_n a)).flatMap (fun j => match v j with
    | none => []
    | some x => LB m x)).length = x1 at h1 ⊢
    omega
theorem wE_l {a : sA} (wf : wfA a) : (wE a).length ≤ 1334 := by
  have n24 := wf.1
  have h1 : (wEm a).length ≤ 15 := by
    unfold wEm
    split
    · have e1 := wRow_b (t := 14) (k := a_n a) (g := fun j => decide ((oK a).length ≤ j)) n24
      have e2 : ((if 0 < cn (fun j => decide (e_kd (a_E a (oo a ((oK a).length + j))) = 0)) (a_n a - (oK a).length) then wRow 15 (a_n a - (oK a).length) (fun j => decide (e_kd (a_E a (oo a ((oK a).length + j))) = 0)) else []) : List Int32).length ≤ 5 := by split; exact wRow_b (by omega); simp
      have e3 : ((if 0 < cn (fun j => e_an (a_E a (oo a ((oK a).length + j)))) (a_n a - (oK a).length) then wRow 16 (a_n a - (oK a).length) (fun j => e_an (a_E a (oo a ((oK a).length + j)))) else []) : List Int32).length ≤ 5 := by split; exact wRow_b (by omega); simp
      simp only [List.length_append]
      omega
    · simp
  have h2 : (wNm a).length ≤ 42 * a_n a := by
    unfold wNm
    rw [← fm_A wf]
    refine fl_b (fun i hi => ?_)
    have := fl_b (g := fun k => LB 2 (e_nm (a_E a (oo a i)) k).toInt64) (c := 2) (n := e_un (a_E a (oo a i))) (fun _ _ => by rw [LB_l]; omega)
    have := (wf.2.1 _ (oo_lt wf hi)).2.1
    simp only [List.length_append, LB_l]
    omega
  have h3 := wVal_b (a := a) (t := 20) (m := 8) (v := vT a) n24
  have h4 := wVal_b (a := a) (t := 21) (m := 4) (v := vA a) n24
  have h5 := nb_2 (k := 1 + 2 * uns a)
  rw [wE]
  simp only [List.length_append, List.length_cons, List.length_nil]
  rw [nb_1 (k := a_n a) (by omega)]
  omega
theorem wN_b {a : sA} (wf : wfA a) (w : wok a) : wN a ≤ 9300 ∧ (wH a).length ≤ 1653 ∧ wO a ≤ 7488 := by
  have h1 := wP2_l wf w
  have h2 := wS_l wf
  have h3 := wE_l wf
  have h4 : (wH a).length ≤ 1653 := by
    unfold wH
    split
    · simp
    · simp only [List.length_append, List.length_cons, List.length_nil]
      split
      · omega
      · simp only [List.length_nil]; omega
  unfold wN wO
  omega
/-- what is told, in what is written -/
theorem wT2_o {a : sA} : lt (wT2 a) 12 8 = Int64.ofNat (wO a) ∧ lt (wT2 a) 20 8 = Int64.ofNat (wN a - (32 + wO a)) := by
  unfold wT2
  refine ⟨?_, lt_lay⟩
  rw [lt_fr (g := lay (wT0 a) 12 (Int64.ofNat (wO a)) 8) (fun j h1 h2 => lay_o (by omega)), lt_lay]
theorem f_sealw {S : sS} (w5 : wN S.1 ≤ 5000) : f_seal (put_T S (wN S.1) (wT2 S.1)) (Int32.ofNat 1) = (Int32.ofNat 1, put_T S (wN S.1) (wTf S.1)) := by
  have h0 : 32 + wO S.1 ≤ wN S.1 := by unfold wN; omega
  obtain ⟨e1, e2⟩ := wT2_o (a := S.1)
  have tB : toldB (wT2 S.1) (wN S.1) = true := by
    rw [toldB_t]
    unfold told
    rw [e1, e2]
    simp (disch := omega) only [qi_lt, qi_le, qi_eq, qi_nn, qi_in, qi_add, qi_l, ql_i, ql_lt, ql_le, ql_eq, ql_add, qc_lt, qc_eq, qc_ge, qc_gt, qc_le]
    omega
  unfold f_seal
  rw [if_neg (by decide), if_pos rfl]
  show (if wN S.1 < 32 ∨ toldB (wT2 S.1) (wN S.1) = false then _ else _) = _
  rw [tB, if_neg (by intro z; rcases z with z | z; omega; cases z)]
  have e3 : slo (wT2 S.1) (wN S.1) = wT3 S.1 := by
    unfold slo wT3
    rw [e1, Int64.toNatClampNeg_ofNat_of_lt (by omega)]
  show (Int32.ofNat 1, put_T (put_T S (wN S.1) (wT2 S.1)) (wN S.1) (slh (slo (wT2 S.1) (wN S.1)))) = _
  rw [e3]
  rfl
section MT
variable {tt : Nat → Nat} {P : Nat → Prop} {h h' h'' : am_H} {m : Nat} {ad : Nat → Nat} {S : sS}
/-- the reference, while it writes: the bytes L -/
def MW (P : Nat → Prop) (h : am_H) (m : Nat) (ad : Nat → Nat) (S : sS) (L : List Int32) (k : am_H) : Prop := MX P k m ad S L.length ∧ mfr h m ad k ∧ ∀ j, j < L.length → am_A k (ad 23) j = by8 (L.getD j 0)
theorem MW.tl {L l : List Int32} {k : am_H} (x : MW P h m ad S L k) (hl : L.length + l.length ≤ 9300) : MW P h m ad S (L ++ l) (ml m ad k l) := by
  obtain ⟨x1, x2, x3⟩ := x
  refine ⟨by rw [List.length_append]; exact x1.tl l, x2.tr ml_mfr, fun j hj => ?_⟩
  rw [ml_o x1.2.2.1 hl]
  rw [List.length_append] at hj
  unfold apl
  by_cases c : L.length ≤ j ∧ j < L.length + l.length
  · rw [if_pos c, List.getD_eq_getElem?_getD, List.getD_eq_getElem?_getD, List.getElem?_append_right c.1]
  · rw [if_neg c, x3 j (by omega), List.getD_eq_getElem?_getD, List.getD_eq_getElem?_getD, List.getElem?_append_left (by omega)]
theorem MW.row {L : List Int32} {k : am_H} (x : MW P h m ad S L k) {i : Nat} (hi : i = 21 ∨ i = 22 ∨ i = 26) (f : Nat → Int32) : MW P h m ad S L (am_cA k (ad i) f) := by
  obtain ⟨x1, x2, x3⟩ := x
  exact ⟨x1.row hi f, x2.tr mfr.cA, fun j hj => by simp only [am_hs]; rw [if_neg (x1.ne (by omega))]; exact x3 j hj⟩
theorem ct_sign {i : Nat} (hi : i < 8) : am_Ct tt 175 [.int (Int32.ofNat i)] h (am_pI (fun r h' => h' = h ∧ r = sig.getD i 0) no_x) := by
  have e : (Int32.ofNat i).toInt = (i : Int) := Int32.toInt_ofNat_of_lt (by omega)
  refine vc_175_0 tt _ h _ _ ?_
  rw [e]
  refine ⟨fun z => ⟨rfl, ?_⟩, fun z => ⟨rfl, ?_⟩, fun z => ⟨rfl, ?_⟩, fun z => ⟨rfl, ?_⟩, fun z => ⟨rfl, ?_⟩, fun z => ⟨rfl, ?_⟩, fun z => ⟨rfl, ?_⟩, fun z => ⟨rfl, ?_⟩, trivial⟩
  · have : i = 7 := by omega
    subst this; rfl
  · have : i = 0 := by omega
    subst this; rfl
  · have : i = 1 := by omega
    subst this; rfl
  · have : i = 2 := by omega
    subst this; rfl
  · have : i = 3 := by omega
    subst this; rfl
  · have : i = 4 := by omega
    subst this; rfl
  · have : i = 5 := by omega
    subst this; rfl
  · have : i = 6 := by omega
    subst this; rfl
/-- a tape laid anew, all else as it was -/
theorem RM.tp {n : Nat} {T : Nat → Int32} (q : RM P h m ad S) (wf : wfS S) {f : Nat → Int32} (hf : ∀ j, j < n → f j = T j) (hI : am_I h 10 19 m = Int32.ofNat n) : RM P (am_cA h (ad 18) f) m ad (put_T S n T) := by
  have := q.upT (h' := am_cA h (ad 18) f) (n := n) (T := T) wf mfr.cA (fun _ _ _ => rfl) (fun k hk => by simp only [am_hs]; rw [if_neg (fun z => hk (q.1.2.2 _ _ z))]) rfl hI (fun j hj => by simp only [am_hs, true_and, and_true, and_self, true_or, or_true, false_or, or_false, false_and, and_false, not_true_eq_false, not_false_eq_true, Classical.not_not, true_implies, false_implies, implies_true, exists_eq_left, exists_eq_left', Option.some.injEq, reduceIte, Nat.reduceEqDiff, Nat.reduceLT, Nat.reduceLeDiff, Nat.reduceAdd, Nat.reduceSub, Nat.reduceMul, eq_self, ne_eq, and_imp, forall_const, reduceCtorEq, am_w, List.map_cons, List.map_nil, List.sum_cons, List.sum_nil, Value.category, Nat.zero_le, Nat.le_refl]; exact hf j hj)
  exact this.1
theorem hd0 : ∀ i, i < 32 → 8 ≤ i → by8 (((R0 32).flatMap (fun _ => [Int32.ofNat 0])).getD i 0) = by8 (hd32.getD i 0) := by decide
theorem sg8 : ∀ i, i < 8 → by8 (hd32.getD i 0) = (sig.getD i 0).toInt8.toInt32.toInt8.toInt32 := by decide
theorem hd0_l : ((R0 32).flatMap (fun _ => [Int32.ofNat 0])).length = 32 := by decide
theorem ct_mwrite (q : RM P h m ad S) (wf : wfS S) : am_Ct tt 174 [.ref m] h (am_pI (fun r h' => r = (f_write S).1 ∧ okM P h m ad (f_write S).2 h') no_x) := by
  have q0 := q.th (Int32.ofNat 0)
  have p0 : mfr h m ad (am_sI h 10 0 m (Int32.ofNat 0)) := mfr.sI
  have n24 := wf.1.1
  have hK := oK_le wf.1
  have bad : ∀ k, RM P k m ad S → mfr h m ad k → okM P h m ad S k := fun k r p => ⟨r, p.fr q, p.2.2.2.2.1, p.2.2.2.2.2.1⟩
  -- the tape
  have k265 : ∀ (k : am_H) (f : Nat → Int32), wok S.1 → wN S.1 ≤ 5000 → RM P k m ad S → mfr h m ad k → am_I k 10 24 m = Int32.ofNat (wN S.1) → am_I k 10 19 m = Int32.ofNat S.2.1 → (∀ j, j < wN S.1 → f j = wT0 S.1 j) →
      am_Ev tt 174 265 [some (.ref m), none, none, some (.int (Int32.ofNat (wO S.1))), none] [] (am_cA (am_sI k 10 19 m (Int32.ofNat (wN S.1))) (ad 18) f) (am_pI (fun r h' => r = (f_write S).1 ∧ okM P h m ad (f_write S).2 h') no_x) := by
    intro k f w w5 r p e24 e19 hf
    have h0 : 32 + wO S.1 ≤ wN S.1 := by unfold wN; omega
    have s := r.1
    have s1 : md_s (am_sI k 10 19 m (Int32.ofNat (wN S.1))) m ad := mfr.sI.md (m := m) s
    have s2 : md_s (am_cA (am_sI k 10 19 m (Int32.ofNat (wN S.1))) (ad 18) f) m ad := mfr.cA.md (m := m) s1
    refine vc_174_265 tt _ _ _ _ _ ⟨s2.1, _, _, by rw [qi_l (by omega)]; exact ct_putLittle s2 (by omega) (by omega), fun k1 e1 => ?_, fun _ _ z => z⟩
    rw [cA_A, cA_cA] at e1
    have s3 : md_s k1 m ad := by rw [e1]; exact mfr.cA.md (m := m) s1
    have e24' : am_I k1 10 24 m = Int32.ofNat (wN S.1) := by rw [e1]; simp only [am_hs, true_and, and_true, and_self, true_or, or_true, false_or, or_false, false_and, and_false, not_true_eq_false, not_false_eq_true, Classical.not_not, true_implies, false_implies, implies_true, exists_eq_left, exists_eq_left', Option.some.injEq, reduceIte, Nat.reduceEqDiff, Nat.reduceLT, Nat.reduceLeDiff, Nat.reduceAdd, Nat.reduceSub, Nat.reduceMul, eq_self, ne_eq, and_imp, forall_const, reduceCtorEq, am_w, List.map_cons, List.map_nil, List.sum_cons, List.sum_nil, Value.category, Nat.zero_le, Nat.le_refl]; exact e24
    refine ⟨s3.1, s3.1, _, _, by rw [e24', qi_sub (by omega), qi_sub (by omega), qi_l (by omega)]; exact ct_putLittle s3 (by omega) (by omega), fun k2 e2 => ?_, fun _ _ z => z⟩
    rw [e1, cA_A, cA_cA] at e2
    have r2 : okM P h m ad (put_T S (wN S.1) (wT2 S.1)) k2 := by
      rw [e2]
      have up := r.upT (h' := am_cA (am_sI k 10 19 m (Int32.ofNat (wN S.1))) (ad 18) (lay (lay f 12 (Int64.ofNat (wO S.1)) 8) 20 (Int64.ofNat (wN S.1 - 32 - wO S.1)) 8)) (n := wN S.1) (T := wT2 S.1) wf (mfr.sI.tr mfr.cA) (fun g g0 g1 => by simp only [am_hs]; rw [if_neg (fun z => g1 z.2.1)]) (fun i hi => by simp only [am_hs]; rw [if_neg (fun z => hi (s.2.2 _ _ z))]) rfl (by simp only [am_hs, true_and, and_true, and_self, true_or, or_true, false_or, or_false, false_and, and_false, not_true_eq_false, not_false_eq_true, Classical.not_not, true_implies, false_implies, implies_true, exists_eq_left, exists_eq_left', Option.some.injEq, reduceIte, Nat.reduceEqDiff, Nat.reduceLT, Nat.reduceLeDiff, Nat.reduceAdd, Nat.reduceSub, Nat.reduceMul, eq_self, ne_eq, and_imp, forall_const, reduceCtorEq, am_w, List.map_cons, List.map_nil, List.sum_cons, List.sum_nil, Value.category, Nat.zero_le, Nat.le_refl]) (fun j hj => by
        simp only [am_hs, true_and, and_true, and_self, true_or, or_true, false_or, or_false, false_and, and_false, not_true_eq_false, not_false_eq_true, Classical.not_not, true_implies, false_implies, implies_true, exists_eq_left, exists_eq_left', Option.some.injEq, reduceIte, Nat.reduceEqDiff, Nat.reduceLT, Nat.reduceLeDiff, Nat.reduceAdd, Nat.reduceSub, Nat.reduceMul, eq_self, ne_eq, and_imp, forall_const, reduceCtorEq, am_w, List.map_cons, List.map_nil, List.sum_cons, List.sum_nil, Value.category, Nat.zero_le, Nat.le_refl]
        rw [show wN S.1 - 32 - wO S.1 = wN S.1 - (32 + wO S.1) by omega]
        exact lay_fr (lay_fr (hf j hj)))
      exact (bad k r p).tr up
    have wf2 : wfS (put_T S (wN S.1) (wT2 S.1)) := ⟨wf.1, w5, fun j hj => lay_8 (lay_8 wT0_8)⟩
    refine ⟨r2.1.1.1, _, _, ct_mseal r2.1 wf2 (x := Int32.ofNat 1), fun v k3 e3 => ?_, fun _ _ z => z⟩
    rw [f_sealw w5] at e3
    obtain ⟨rfl, o3⟩ := e3
    refine ⟨fun z => absurd rfl z, fun _ => ⟨o3.1.1.1, ?_⟩⟩
    rw [f_wr w, if_pos w5]
    exact ⟨o3.1.2.2.2.2.1, r2.tr o3⟩
  -- the signature
  have k239 : ∀ (d i : Nat) (k : am_H) (f : Nat → Int32), d + i = 8 → wok S.1 → wN S.1 ≤ 5000 → RM P k m ad S → mfr h m ad k → am_I k 10 24 m = Int32.ofNat (wN S.1) → am_I k 10 19 m = Int32.ofNat S.2.1 → (∀ j, j < wN S.1 → ¬ (i ≤ j ∧ j < 8) → f j = wT0 S.1 j) →
      am_Ev tt 174 239 [some (.ref m), none, none, some (.int (Int32.ofNat (wO S.1))), some (.int (Int32.ofNat i))] [] (am_cA (am_sI k 10 19 m (Int32.ofNat (wN S.1))) (ad 18) f) (am_pI (fun r h' => r = (f_write S).1 ∧ okM P h m ad (f_write S).2 h') no_x) := by
    intro d
    induction d with
    | zero =>
      intro i k f e w w5 r p e24 e19 hf
      have : i = 8 := by omega
      subst this
      exact vc_174_239 tt _ _ _ _ _ _ ⟨fun _ => k265 k f w w5 r p e24 e19 (fun j hj => hf j hj (by omega)), fun z => absurd (by decide) z⟩
    | succ d ih =>
      intro i k f e w w5 r p e24 e19 hf
      have s := r.1
      have i5 : i < 5000 := by omega
      have nx := fun g => ih (i + 1) k g (by omega) w w5 r p e24 e19
      refine vc_174_239 tt _ _ _ _ _ _ ?_
      simp (disch := omega) only [s.1, md_f s, am_hs, qi_lt, qi_le, qi_eq, qi_nn, qi_in, qi_add, qi_l, ql_i, ql_lt, ql_le, ql_eq, ql_add, qc_lt, qc_eq, qc_ge, qc_gt, qc_le, true_and, and_true, and_self, true_or, or_true, false_or, or_false, false_and, and_false, not_true_eq_false, not_false_eq_true, Classical.not_not, true_implies, false_implies, implies_true, exists_eq_left, exists_eq_left', Option.some.injEq, reduceIte, Nat.reduceEqDiff, Nat.reduceLT, Nat.reduceLeDiff, Nat.reduceAdd, Nat.reduceSub, Nat.reduceMul, eq_self, ne_eq, and_imp, forall_const, reduceCtorEq, am_w, List.map_cons, List.map_nil, List.sum_cons, List.sum_nil, Value.category, Nat.zero_le, Nat.le_refl]
      refine ⟨fun z => by omega, fun _ => ⟨_, _, ct_sign (i := i) (by omega), fun v k' e' => ?_, fun _ _ z => z⟩⟩
      obtain ⟨ek, rfl⟩ := e'
      subst ek
      simp (disch := omega) only [s.1, md_f s, i5, am_hs, qi_lt, qi_le, qi_eq, qi_nn, qi_in, qi_add, qi_l, ql_i, ql_lt, ql_le, ql_eq, ql_add, qc_lt, qc_eq, qc_ge, qc_gt, qc_le, true_and, and_true, and_self, true_or, or_true, false_or, or_false, false_and, and_false, not_true_eq_false, not_false_eq_true, Classical.not_not, true_implies, false_implies, implies_true, exists_eq_left, exists_eq_left', Option.some.injEq, reduceIte, Nat.reduceEqDiff, Nat.reduceLT, Nat.reduceLeDiff, Nat.reduceAdd, Nat.reduceSub, Nat.reduceMul, eq_self, ne_eq, and_imp, forall_const, reduceCtorEq, am_w, List.map_cons, List.map_nil, List.sum_cons, List.sum_nil, Value.category, Nat.zero_le, Nat.le_refl]
      rw [cA_sA]
      refine nx _ (fun j hj hn => ?_)
      unfold va_up
      split
      · next c =>
        subst c
        rw [wT0, apl_lt (by unfold wN at hj; omega), apl_lt (by omega), apl, if_pos (by rw [hd32_l]; omega), Nat.sub_zero]
        exact (sg8 j (by omega)).symm
      · exact hf j hj (by omega)
  have k207 : ∀ (d i : Nat) (k : am_H) (f : Nat → Int32) (L : List Int32), d + i = wN S.1 → wok S.1 → wN S.1 ≤ 5000 → MW P h m ad S L k → L.length = wN S.1 → am_I k 10 19 m = Int32.ofNat S.2.1 → (∀ j, 8 ≤ j → j < wN S.1 → by8 (L.getD j 0) = wT0 S.1 j) → (∀ j, j < i → f j = by8 (L.getD j 0)) →
      am_Ev tt 174 207 [some (.ref m), none, none, some (.int (Int32.ofNat (wO S.1))), some (.int (Int32.ofNat i))] [] (am_cA (am_sI k 10 19 m (Int32.ofNat (wN S.1))) (ad 18) f) (am_pI (fun r h' => r = (f_write S).1 ∧ okM P h m ad (f_write S).2 h') no_x) := by
    intro d
    induction d with
    | zero =>
      intro i k f L e w w5 x hL e19 h8 hf
      have : i = wN S.1 := by omega
      subst this
      have s := x.1.1.1
      have e24 := x.1.2.2.1
      rw [hL] at e24
      have h0 : 32 ≤ wN S.1 := by unfold wN; omega
      refine vc_174_207 tt _ _ _ _ _ _ ?_
      simp (disch := omega) only [s.1, e24, am_hs, qi_lt, qi_le, qi_eq, qi_nn, qi_in, qi_add, qi_l, ql_i, ql_lt, ql_le, ql_eq, ql_add, qc_lt, qc_eq, qc_ge, qc_gt, qc_le, true_and, and_true, and_self, true_or, or_true, false_or, or_false, false_and, and_false, not_true_eq_false, not_false_eq_true, Classical.not_not, true_implies, false_implies, implies_true, exists_eq_left, exists_eq_left', Option.some.injEq, reduceIte, Nat.reduceEqDiff, Nat.reduceLT, Nat.reduceLeDiff, Nat.reduceAdd, Nat.reduceSub, Nat.reduceMul, eq_self, ne_eq, and_imp, forall_const, reduceCtorEq, am_w, List.map_cons, List.map_nil, List.sum_cons, List.sum_nil, Value.category, Nat.zero_le, Nat.le_refl]
      exact k239 8 0 k f (by omega) w w5 x.1.1 x.2.1 e24 e19 (fun j hj hn => by rw [hf j hj]; exact h8 j (by omega) hj)
    | succ d ih =>
      intro i k f L e w w5 x hL e19 h8 hf
      have s := x.1.1.1
      have e24 := x.1.2.2.1
      rw [hL] at e24
      have x3 := x.2.2 i (by omega)
      have i5 : i < 5000 := by omega
      have i9 : i < 9300 := by omega
      have nx := fun g => ih (i + 1) k g L (by omega) w w5 x hL e19 h8
      refine vc_174_207 tt _ _ _ _ _ _ ?_
      simp (disch := omega) only [s.1, md_f s, md_i s, e24, x3, i5, i9, am_hs, qi_lt, qi_le, qi_eq, qi_nn, qi_in, qi_add, qi_l, ql_i, ql_lt, ql_le, ql_eq, ql_add, qc_lt, qc_eq, qc_ge, qc_gt, qc_le, true_and, and_true, and_self, true_or, or_true, false_or, or_false, false_and, and_false, not_true_eq_false, not_false_eq_true, Classical.not_not, true_implies, false_implies, implies_true, exists_eq_left, exists_eq_left', Option.some.injEq, reduceIte, Nat.reduceEqDiff, Nat.reduceLT, Nat.reduceLeDiff, Nat.reduceAdd, Nat.reduceSub, Nat.reduceMul, eq_self, ne_eq, and_imp, forall_const, reduceCtorEq, am_w, List.map_cons, List.map_nil, List.sum_cons, List.sum_nil, Value.category, Nat.zero_le, Nat.le_refl]
      refine ⟨fun z => by omega, fun _ => ?_⟩
      rw [cA_sA]
      refine nx _ (fun j hj => ?_)
      unfold va_up
      split
      · next c => rw [c]; exact by8_8
      · exact hf j (by omega)
  have k183 : ∀ (k : am_H) (L : List Int32), wok S.1 → MW P h m ad S L k → L = (R0 32).flatMap (fun _ => [Int32.ofNat 0]) ++ (wP2 S.1 ++ wH S.1) →
      am_Ev tt 174 183 [some (.ref m), none, none, some (.int (Int32.ofNat (wO S.1))), none] [] k (am_pI (fun r h' => r = (f_write S).1 ∧ okM P h m ad (f_write S).2 h') no_x) := by
    intro k L w x eL
    have hL : L.length = wN S.1 := by
      rw [eL, List.length_append, List.length_append, hd0_l]
      unfold wN wO
      omega
    have e24 := x.1.2.2.1
    rw [hL] at e24
    have hb := (wN_b wf.1 w).1
    have s := x.1.1.1
    have e19 := x.1.1.2.2.2.2.1
    refine vc_174_183 tt _ _ _ _ _ ?_
    rw [e24, qi_le (by omega) (by omega)]
    refine ⟨s.1, fun z => ⟨s.1, s.1, ?_⟩, fun z => ?_⟩
    · have := k207 (wN S.1) 0 k (am_A (am_sI k 10 19 m (Int32.ofNat (wN S.1))) (ad 18)) L (by omega) w z x hL e19 (fun j h1 h2 => ?_) (fun j hj => absurd hj (Nat.not_lt_zero j))
      · rw [cA_id] at this
        exact this
      · rw [eL, wT0]
        by_cases c1 : j < 32
        · rw [List.getD_eq_getElem?_getD, List.getElem?_append_left (by rw [hd0_l]; exact c1), ← List.getD_eq_getElem?_getD, hd0 j c1 h1, apl_lt (by omega), apl_lt c1, apl, if_pos (by rw [hd32_l]; omega), Nat.sub_zero]
        · rw [List.getD_eq_getElem?_getD, List.getElem?_append_right (by rw [hd0_l]; omega), hd0_l]
          by_cases c2 : j < 32 + wO S.1
          · rw [List.getElem?_append_left (by unfold wO at c2; omega), ← List.getD_eq_getElem?_getD, apl_lt c2, apl, if_pos (by unfold wO at c2; omega)]
          · rw [List.getElem?_append_right (by unfold wO at c2; omega), ← List.getD_eq_getElem?_getD, apl, if_pos (by unfold wN wO at *; omega)]
            congr 2
            unfold wO
            omega
    · rw [f_wr w, if_neg z]
      exact ⟨rfl, bad k x.1.1 x.2.1⟩
  have k127 : ∀ (d b : Nat) (k : am_H), d + b = 6 → wok S.1 → MW P h m ad S ((R0 32).flatMap (fun _ => [Int32.ofNat 0]) ++ (R0 b).flatMap (pk2 S.1)) k →
      am_Ev tt 174 127 [some (.ref m), some (.int (Int32.ofNat (oK S.1).length)), some (.int (Int32.ofNat (kb S.1))), some (.int (Int32.ofNat b)), none] [] k (am_pI (fun r h' => r = (f_write S).1 ∧ okM P h m ad (f_write S).2 h') no_x) := by
    intro d
    induction d with
    | zero =>
      intro b k e w x
      have : b = 6 := by omega
      subst this
      have x : MW P h m ad S ((R0 32).flatMap (fun _ => [Int32.ofNat 0]) ++ wP2 S.1) k := x
      have hb := wN_b wf.1 w
      have s := x.1.1.1
      have q2 := x.1.1.2.1
      have e24 := x.1.2.2.1
      rw [List.length_append, hd0_l] at e24
      have eO : (wP2 S.1).length = wO S.1 := rfl
      rw [eO] at e24
      have LL : ((R0 32).flatMap (fun _ => [Int32.ofNat 0]) ++ wP2 S.1).length = 32 + wO S.1 := by rw [List.length_append, hd0_l]; rfl
      have y := x.1
      rw [LL] at y
      have k173 : ∀ (k1 : am_H) (L : List Int32), ¬ a_n S.1 = 0 → MW P h m ad S L k1 → L ++ (wE S.1 ++ [Int32.ofNat 0]) = (R0 32).flatMap (fun _ => [Int32.ofNat 0]) ++ (wP2 S.1 ++ wH S.1) →
          am_Ev tt 174 173 [some (.ref m), some (.int (Int32.ofNat (oK S.1).length)), none, some (.int (Int32.ofNat (wO S.1))), none] [] k1 (am_pI (fun r h' => r = (f_write S).1 ∧ okM P h m ad (f_write S).2 h') no_x) := by
        intro k1 L n0 x1 eL
        have lL : L.length + ((wE S.1).length + 1) = wN S.1 := by
          have := congrArg List.length eL
          simp only [List.length_append, List.length_cons, List.length_nil] at this
          rw [hd0_l] at this
          unfold wN wO
          omega
        refine vc_174_173 tt _ _ _ _ _ _ ⟨x1.1.1.1.1, _, _, ct_putEntries x1.1 (by omega), fun k2 e2 => ?_, fun _ _ z => z⟩
        obtain ⟨f, e2⟩ := e2
        have x2 : MW P h m ad S (L ++ wE S.1) k2 := by
          rw [e2]
          exact (x1.row (i := 26) (by omega) f).tl (by omega)
        have y2 := x2.1
        rw [List.length_append] at y2
        refine y2.b (by omega) rfl fun h3 e3 _ => ?_
        have x3 : MW P h m ad S ((L ++ wE S.1) ++ [Int32.ofNat 0]) h3 := by
          rw [e3]
          exact x2.tl (by rw [List.length_append]; simp only [List.length_cons, List.length_nil]; omega)
        exact k183 h3 _ w x3 (by rw [List.append_assoc]; exact eL)
      refine vc_174_127 tt _ _ _ _ _ _ _ ⟨fun _ => ?_, fun z => absurd (by decide) z⟩
      rw [q2, e24, qi_sub (by omega), Nat.add_sub_cancel_left, qi_le (by omega) (by omega)]
      refine ⟨s.1, s.1, fun z => ?_, fun z => y.b (by omega) rfl fun h1 e1 x1 => ?_⟩
      · refine k183 k _ w x ?_
        rw [wH, if_pos (by omega), List.append_nil]
      · have hH : wH S.1 = [Int32.ofNat 1] ++ ((if 0 < (oK S.1).length then wS S.1 else []) ++ (wE S.1 ++ [Int32.ofNat 0])) := by rw [wH, if_neg (by omega)]
        have lH : (wH S.1).length = 1 + (((if 0 < (oK S.1).length then wS S.1 else []) : List Int32).length + ((wE S.1).length + 1)) := by
          rw [hH]
          simp only [List.length_append, List.length_cons, List.length_nil]
        have hN : wN S.1 = 32 + wO S.1 + (wH S.1).length := rfl
        have m1 : MW P h m ad S (((R0 32).flatMap (fun _ => [Int32.ofNat 0]) ++ wP2 S.1) ++ [Int32.ofNat 1]) h1 := by
          rw [e1]
          exact x.tl (by rw [LL]; simp only [List.length_cons, List.length_nil]; omega)
        refine ⟨fun z2 => ?_, fun z2 => ?_⟩
        · rw [qi_le (by omega) (by omega)] at z2
          refine k173 h1 _ (by omega) m1 ?_
          rw [hH, if_neg (by omega)]
          simp only [List.append_assoc, List.nil_append]
        · rw [qi_le (by omega) (by omega)] at z2
          rw [if_pos (by omega)] at lH
          refine ⟨x1.1.1.1, _, _, ct_putStreams x1 w (by omega) (by omega), fun k2 e2 => ?_, fun _ _ z => z⟩
          refine k173 k2 _ (by omega) (by rw [e2]; exact m1.tl (by rw [List.length_append, LL]; simp only [List.length_cons, List.length_nil]; omega)) ?_
          rw [hH, if_pos (by omega)]
          simp only [List.append_assoc]
    | succ d ih =>
      intro b k e w x
      have hb := wN_b wf.1 w
      have y := x.1
      rw [List.length_append, hd0_l] at y
      have fl := fm_le (g := pk2 S.1) (i := b) (n := 6) (by omega)
      have fl : _ ≤ wO S.1 := fl
      have hN : wN S.1 = 32 + wO S.1 + (wH S.1).length := rfl
      refine vc_174_127 tt _ _ _ _ _ _ _ ?_
      simp (disch := omega) only [y.1.1.1, qi_lt, qi_le, qi_eq, qi_nn, qi_in, qi_add, qi_l, ql_i, ql_lt, ql_le, ql_eq, ql_add, qc_lt, qc_eq, qc_ge, qc_gt, qc_le, true_and, and_true, and_self, true_or, or_true, false_or, or_false, false_and, and_false, not_true_eq_false, not_false_eq_true, Classical.not_not, true_implies, false_implies, implies_true, exists_eq_left, exists_eq_left', Option.some.injEq, reduceIte, Nat.reduceEqDiff, Nat.reduceLT, Nat.reduceLeDiff, Nat.reduceAdd, Nat.reduceSub, Nat.reduceMul, eq_self, ne_eq, and_imp, forall_const, reduceCtorEq, am_w, List.map_cons, List.map_nil, List.sum_cons, List.sum_nil, Value.category, Nat.zero_le, Nat.le_refl]
      refine ⟨fun z => by omega, fun _ => ⟨_, _, ct_putBlock y w (b := b) (by omega) (by omega), fun k2 e2 => ?_, fun _ _ z => z⟩⟩
      obtain ⟨f, g, e2⟩ := e2
      refine ih (b + 1) k2 (by omega) w ?_
      rw [fm_s (b := b) (g := pk2 S.1), ← List.append_assoc, e2]
      exact ((x.row (i := 22) (by omega) g).row (i := 21) (by omega) f).tl (by rw [List.length_append, hd0_l]; omega)
  have k108 : ∀ (d i : Nat) (k : am_H), d + i = 32 → wok S.1 → MW P h m ad S ((R0 i).flatMap (fun _ => [Int32.ofNat 0])) k →
      am_Ev tt 174 108 [some (.ref m), some (.int (Int32.ofNat (oK S.1).length)), some (.int (Int32.ofNat (kb S.1))), some (.int (Int32.ofNat i)), none] [] k (am_pI (fun r h' => r = (f_write S).1 ∧ okM P h m ad (f_write S).2 h') no_x) := by
    intro d
    induction d with
    | zero =>
      intro i k e w x
      have : i = 32 := by omega
      subst this
      refine vc_174_108 tt _ _ _ _ _ _ _ ⟨fun _ => k127 6 0 k (by omega) w ?_, fun z => absurd (by decide) z⟩
      rw [show (R0 0).flatMap (pk2 S.1) = [] from rfl, List.append_nil]
      exact x
    | succ d ih =>
      intro i k e w x
      have y := x.1
      have hl : ((R0 i).flatMap (fun _ => [Int32.ofNat 0])).length ≤ 1 * i := fl_b (fun _ _ => by simp)
      refine vc_174_108 tt _ _ _ _ _ _ _ ?_
      simp (disch := omega) only [y.1.1.1, qi_lt, qi_le, qi_eq, qi_nn, qi_in, qi_add, qi_l, ql_i, ql_lt, ql_le, ql_eq, ql_add, qc_lt, qc_eq, qc_ge, qc_gt, qc_le, true_and, and_true, and_self, true_or, or_true, false_or, or_false, false_and, and_false, not_true_eq_false, not_false_eq_true, Classical.not_not, true_implies, false_implies, implies_true, exists_eq_left, exists_eq_left', Option.some.injEq, reduceIte, Nat.reduceEqDiff, Nat.reduceLT, Nat.reduceLeDiff, Nat.reduceAdd, Nat.reduceSub, Nat.reduceMul, eq_self, ne_eq, and_imp, forall_const, reduceCtorEq, am_w, List.map_cons, List.map_nil, List.sum_cons, List.sum_nil, Value.category, Nat.zero_le, Nat.le_refl]
      refine ⟨fun z => by omega, fun _ => (y.b (by omega) rfl fun h2 e2 _ => ih (i + 1) h2 (by omega) w ?_).2⟩
      rw [fm_s, e2]
      exact x.tl (by simp only [List.length_cons, List.length_nil]; omega)
  -- sums
  have k47 : ∀ (d b : Nat) (k : am_H), d + b = 6 → rdy S.1 → (∀ c, c < b → sbo (a_E S.1) c (a_n S.1) ≤ 2400) → RM P k m ad S → mfr h m ad k →
      am_Ev tt 174 47 [some (.ref m), some (.int (Int32.ofNat ((R0 b).flatMap (fun b => oBn (a_E S.1) b (a_n S.1))).length)), some (.int (Int32.ofNat (kbn S.1 b))), some (.int (Int32.ofNat b)), none] [] k (am_pI (fun r h' => r = (f_write S).1 ∧ okM P h m ad (f_write S).2 h') no_x) := by
    intro d
    induction d with
    | zero =>
      intro b k e hr hs r p
      have : b = 6 := by omega
      subst this
      refine vc_174_47 tt _ _ _ _ _ _ _ ⟨fun _ => ?_, fun z => absurd (by decide) z⟩
      refine vc_174_97 tt _ _ _ _ _ _ ⟨r.1.1, _, _, ct_sort r wf, fun k1 e1 => ?_, fun _ _ z => z⟩
      obtain ⟨f, e1, hf⟩ := e1
      have r1 := r.r25 (k := 25) (by omega) f
      have r2 : RM P (am_sI (am_cA k (ad 25) f) 10 24 m (Int32.ofNat 0)) m ad S := r1.same mfr.sI (fun g hg => by simp only [am_hs]; rw [if_neg (by omega)]) (fun _ _ _ => rfl) rfl
      rw [e1]
      refine ⟨r1.1.1, k108 32 0 _ (by omega) ⟨hr, hs⟩ ⟨⟨r2, wf, by simp only [am_hs, true_and, and_true, and_self, true_or, or_true, false_or, or_false, false_and, and_false, not_true_eq_false, not_false_eq_true, Classical.not_not, true_implies, false_implies, implies_true, exists_eq_left, exists_eq_left', Option.some.injEq, reduceIte, Nat.reduceEqDiff, Nat.reduceLT, Nat.reduceLeDiff, Nat.reduceAdd, Nat.reduceSub, Nat.reduceMul, eq_self, ne_eq, and_imp, forall_const, reduceCtorEq, am_w, List.map_cons, List.map_nil, List.sum_cons, List.sum_nil, Value.category, Nat.zero_le, Nat.le_refl]; rfl, fun j hj => ?_⟩, (p.tr mfr.cA).tr mfr.sI, fun j hj => absurd hj (Nat.not_lt_zero j)⟩⟩
      simp only [am_hs, true_and, and_true, and_self, true_or, or_true, false_or, or_false, false_and, and_false, not_true_eq_false, not_false_eq_true, Classical.not_not, true_implies, false_implies, implies_true, exists_eq_left, exists_eq_left', Option.some.injEq, reduceIte, Nat.reduceEqDiff, Nat.reduceLT, Nat.reduceLeDiff, Nat.reduceAdd, Nat.reduceSub, Nat.reduceMul, eq_self, ne_eq, and_imp, forall_const, reduceCtorEq, am_w, List.map_cons, List.map_nil, List.sum_cons, List.sum_nil, Value.category, Nat.zero_le, Nat.le_refl]
      exact hf j hj
    | succ d ih =>
      intro b k e hr hs r p
      have hsb : sbo (a_E S.1) b (a_n S.1) ≤ 57600 := by
        have := sbo_le (E := a_E S.1) (b := b) (n := a_n S.1) (fun j hj => (wf.1.2.1 j hj).2.2.1)
        omega
      have hsf := sfo_le (E := a_E S.1) (b := b) (n := a_n S.1)
      refine vc_174_47 tt _ _ _ _ _ _ _ ?_
      simp (disch := omega) only [r.1.1, qi_lt, qi_le, qi_eq, qi_nn, qi_in, qi_add, qi_l, ql_i, ql_lt, ql_le, ql_eq, ql_add, qc_lt, qc_eq, qc_ge, qc_gt, qc_le, true_and, and_true, and_self, true_or, or_true, false_or, or_false, false_and, and_false, not_true_eq_false, not_false_eq_true, Classical.not_not, true_implies, false_implies, implies_true, exists_eq_left, exists_eq_left', Option.some.injEq, reduceIte, Nat.reduceEqDiff, Nat.reduceLT, Nat.reduceLeDiff, Nat.reduceAdd, Nat.reduceSub, Nat.reduceMul, eq_self, ne_eq, and_imp, forall_const, reduceCtorEq, am_w, List.map_cons, List.map_nil, List.sum_cons, List.sum_nil, Value.category, Nat.zero_le, Nat.le_refl]
      refine ⟨fun z => by omega, fun _ => ⟨_, _, ct_mbytesOf r wf (b := b) (by omega), fun v k1 e1 => ?_, fun _ _ z => z⟩⟩
      obtain ⟨rfl, ek⟩ := e1
      rw [ek, qi_le (by omega) (by omega)]
      refine ⟨fun z => ⟨r.1.1, _, _, ct_mfilesOf r wf (b := b) (by omega), fun v k1 e1 => ?_, fun _ _ z => z⟩, fun z => ?_⟩
      · obtain ⟨rfl, ek⟩ := e1
        rw [ek]
        have nx := ih (b + 1) k (by omega) hr (fun c hc => by
          by_cases c1 : c = b
          · rw [c1]; exact z
          · exact hs c (by omega)) r p
        rw [fm_s, List.length_append, oBn_l, kbn_s] at nx
        refine vc_174_75 tt _ _ _ _ _ _ _ ⟨r.1.1, _, _, ct_mfilesOf r wf (b := b) (by omega), fun v k1 e1 => ?_, fun _ _ z => z⟩
        obtain ⟨rfl, ek⟩ := e1
        rw [ek, qi_le (by omega) (by omega), qi_add, qi_add, qi_add]
        refine ⟨fun z2 => ?_, fun z2 => ?_⟩
        · rw [if_neg (by omega)] at nx
          exact vc_174_91 tt _ _ _ _ _ _ _ (by rw [qi_add]; exact nx)
        · rw [if_pos (by omega)] at nx
          exact vc_174_91 tt _ _ _ _ _ _ _ (by rw [qi_add]; exact nx)
      · rw [f_wr4 hr (fun w => z (w b (by omega)))]
        exact ⟨rfl, bad k r p⟩
  have k7 : ∀ (d i : Nat) (k : am_H), d + i = a_n S.1 → (∀ j, j < i → ¬ e_un (a_E S.1 j) = 0 ∧ (0 < e_sz (a_E S.1 j) → a_kn S.1 j = true)) → RM P k m ad S → mfr h m ad k →
      am_Ev tt 174 7 [some (.ref m), some (.int (Int32.ofNat i)), none, none, none] [] k (am_pI (fun r h' => r = (f_write S).1 ∧ okM P h m ad (f_write S).2 h') no_x) := by
    intro d
    induction d with
    | zero =>
      intro i k e hi r p
      have : i = a_n S.1 := by omega
      subst this
      refine vc_174_7 tt _ _ _ _ _ ⟨r.1.1, fun _ => ?_, fun z => absurd (by rw [r.2.1]; exact Int32.le_refl _) z⟩
      exact k47 6 0 k (by omega) hi (fun c hc => absurd hc (Nat.not_lt_zero c)) r p
    | succ d ih =>
      intro i k e hi r p
      have s := r.1
      have q2 := r.2.1
      have y2 := (r.2.2.1 i (by omega)).2.1
      have g2 := (wf.1.2.1 i (by omega)).2.1
      have i24 : i < 24 := by omega
      have no : ¬ rdy S.1 → am_Ev tt 174 32 [none, none, none, none, none] [] k (am_pI (fun r h' => r = (f_write S).1 ∧ okM P h m ad (f_write S).2 h') no_x) := by
        intro z
        refine vc_174_32 tt _ _ _ ?_
        rw [f_wr3 z]
        exact ⟨rfl, bad k r p⟩
      refine vc_174_7 tt _ _ _ _ _ ?_
      simp (disch := omega) only [s.1, md_f s, q2, y2, i24, qi_lt, qi_le, qi_eq, qi_nn, qi_in, qi_add, qi_l, ql_i, ql_lt, ql_le, ql_eq, ql_add, qc_lt, qc_eq, qc_ge, qc_gt, qc_le, true_and, and_true, and_self, true_or, or_true, false_or, or_false, false_and, and_false, not_true_eq_false, not_false_eq_true, Classical.not_not, true_implies, false_implies, implies_true, exists_eq_left, exists_eq_left', Option.some.injEq, reduceIte, Nat.reduceEqDiff, Nat.reduceLT, Nat.reduceLeDiff, Nat.reduceAdd, Nat.reduceSub, Nat.reduceMul, eq_self, ne_eq, and_imp, forall_const, reduceCtorEq, am_w, List.map_cons, List.map_nil, List.sum_cons, List.sum_nil, Value.category, Nat.zero_le, Nat.le_refl]
      refine ⟨fun z => by omega, fun _ => ⟨fun z => no (fun w => (w i (by omega)).1 z), fun z => ⟨_, _, ct_mlost r wf (i := i) (by omega), fun v k1 e1 => ?_, fun _ _ z => z⟩⟩⟩
      obtain ⟨ek, rfl⟩ := e1
      rw [ek, b01_z]
      refine ⟨fun z2 => ih (i + 1) k (by omega) (fun j hj => ?_) r p, fun z2 => no (fun w => ?_)⟩
      · by_cases c : j = i
        · subst c
          refine ⟨z, fun hp => ?_⟩
          unfold lostB at z2
          rw [decide_eq_true hp] at z2
          simpa using z2
        · exact hi j (by omega)
      · rw [Bool.not_eq_false] at z2
        unfold lostB at z2
        rw [Bool.and_eq_true, decide_eq_true_iff] at z2
        have := (w i (by omega)).2 z2.1
        rw [this] at z2
        cases z2.2
  exact vc_174_0 tt _ h _ _ ⟨q.1.1, k7 (a_n S.1) 0 _ (by omega) (fun j hj => absurd hj (Nat.not_lt_zero j)) q0.1 p0⟩
end MT
