/-! deps: 20v -/
/-! ===== the reference reads: the blocks stand ===== -/
/-! 202 yX10_stand -/
theorem vc_202_0 (tt : Nat → Nat) (a0 : Nat) (h : am_H) (Q : am_H → Prop) (Qx : String → am_H → Prop) (q :
  (am_K h a0 = 11 ∧ ∃ (Q2 : Int32 → am_H → Prop) (X2 : String → am_H → Prop), am_Ct tt 147 [.ref a0] h (am_pI Q2 X2) ∧ (∀ x3 h1, Q2 x3 h1 →
   am_Ev tt 202 7 [some (.ref a0), none, some (.int (Int32.ofNat 0)), none, none, none, none, none, none] [] h1 (am_pV Q Qx)) ∧ (∀ E4 h1, X2 E4 h1 → Qx E4 h1))) :
  am_Ev tt 202 0 [some (.ref a0), none, none, none, none, none, none, none, none] [] h (am_pV Q Qx) := am_vc 8 [(7, [true, false, true, false, false, false, false, false, false]), (35, [true, false, true, false, false, false, false, false, false]), (62, [true, false, true, true, false, false, false, false, false]), (141, [true, false, true, true, true, true, true, false, false]), (181, [true, false, true, true, true, true, true, false, false]), (198, [true, false, true, true, true, true, true, true, false]), (237, [true, false, true, true, true, true, true, false, false]), (251, [true, false, true, true, true, true, true, false, false]), (279, [true, false, true, true, true, true, true, false, false]), (293, [true, false, true, true, true, true, true, false, false]), (321, [true, false, true, true, true, true, true, false, false]), (335, [true, false, true, true, true, true, true, false, false]), (345, [true, false, true, true, true, true, true, false, false]), (360, [true, false, true, true, true, false, true, true, false]), (380, [true, false, true, true, false, false, true, true, false]), (394, [true, false, true, true, true, true, true, true, false]), (419, [true, false, true, true, true, true, true, true, true]), (471, [true, false, true, true, true, true, true, true, false]), (483, [true, false, true, true, true, true, true, true, false]), (543, [true, false, true, true, true, true, true, false, false])] q
theorem vc_202_7 (tt : Nat → Nat) (a0 : Nat) (a2 : Int32) (h : am_H) (Q : am_H → Prop) (Qx : String → am_H → Prop) (q :
  (am_K h a0 = 11 ∧
  (((am_I h 10 30 a0) ≤ a2 →
   (am_K h a0 = 11 ∧
   (am_K h a0 = 11 ∧
   am_Ev tt 202 141 [some (.ref a0), none, some (.int (Int32.ofNat 32)), some (.int (Int32.ofNat 0)), some (.int (-1 : Int32)), some (.int (Int32.ofNat 0)), some (.int (Int32.ofNat 0)), none, none] [] (am_sI h 10 1 a0 (am_I h 10 41 a0)) (am_pV Q Qx)))) ∧
  (¬ ((am_I h 10 30 a0) ≤ a2) →
   (am_K h a0 = 11 ∧ ∃ q1, am_R h 10 17 a0 = some q1 ∧
   (am_K h a0 = 11 ∧ ∃ q2, am_R h 10 34 a0 = some q2 ∧
   ((am_K h q2 = 23 ∨ am_K h q2 = 24) ∧ vp_in a2 (am_N h q2) ∧
   ((¬ (am_A h q2 (a2).toNatClampNeg) = (Int32.ofNat 0) →
    (vp_in a2 (am_N h q1) ∧ ∃ w3, ((am_K h q1 = 23 ∧ w3 = ((Int32.ofNat 0)).toInt8.toInt32) ∨ (am_K h q1 = 24 ∧ w3 = ((Int32.ofNat 0) &&& 1))) ∧
    am_Ev tt 202 35 [some (.ref a0), none, some (.int a2), none, none, none, none, none, none] [] (am_sA h q1 (a2).toNatClampNeg w3) (am_pV Q Qx))) ∧
   (¬ (¬ (am_A h q2 (a2).toNatClampNeg) = (Int32.ofNat 0)) →
    (vp_in a2 (am_N h q1) ∧ ∃ w4, ((am_K h q1 = 23 ∧ w4 = ((Int32.ofNat 1)).toInt8.toInt32) ∨ (am_K h q1 = 24 ∧ w4 = ((Int32.ofNat 1) &&& 1))) ∧
    am_Ev tt 202 35 [some (.ref a0), none, some (.int a2), none, none, none, none, none, none] [] (am_sA h q1 (a2).toNatClampNeg w4) (am_pV Q Qx))))))))))) :
  am_Ev tt 202 7 [some (.ref a0), none, some (.int a2), none, none, none, none, none, none] [] h (am_pV Q Qx) := am_vc 21 [(7, [true, false, true, false, false, false, false, false, false]), (35, [true, false, true, false, false, false, false, false, false]), (62, [true, false, true, true, false, false, false, false, false]), (141, [true, false, true, true, true, true, true, false, false]), (181, [true, false, true, true, true, true, true, false, false]), (198, [true, false, true, true, true, true, true, true, false]), (237, [true, false, true, true, true, true, true, false, false]), (251, [true, false, true, true, true, true, true, false, false]), (279, [true, false, true, true, true, true, true, false, false]), (293, [true, false, true, true, true, true, true, false, false]), (321, [true, false, true, true, true, true, true, false, false]), (335, [true, false, true, true, true, true, true, false, false]), (345, [true, false, true, true, true, true, true, false, false]), (360, [true, false, true, true, true, false, true, true, false]), (380, [true, false, true, true, false, false, true, true, false]), (394, [true, false, true, true, true, true, true, true, false]), (419, [true, false, true, true, true, true, true, true, true]), (471, [true, false, true, true, true, true, true, true, false]), (483, [true, false, true, true, true, true, true, true, false]), (543, [true, false, true, true, true, true, true, false, false])] q
theorem vc_202_35 (tt : Nat → Nat) (a0 : Nat) (a2 : Int32) (h : am_H) (Q : am_H → Prop) (Qx : String → am_H → Prop) (q :
  (am_K h a0 = 11 ∧ ∃ q1, am_R h 10 14 a0 = some q1 ∧
  (am_K h a0 = 11 ∧ ∃ q2, am_R h 10 34 a0 = some q2 ∧
  ((am_K h q2 = 23 ∨ am_K h q2 = 24) ∧ vp_in a2 (am_N h q2) ∧
  (((am_A h q2 (a2).toNatClampNeg) = (Int32.ofNat 0) →
   (am_K h q1 = 21 ∧ vp_in a2 (am_N h q1) ∧
   am_Ev tt 202 62 [some (.ref a0), none, some (.int a2), some (.int (Int32.ofNat 0)), none, none, none, none, none] [] (am_sA h q1 (a2).toNatClampNeg (Int32.ofNat 0)) (am_pV Q Qx))) ∧
  (¬ ((am_A h q2 (a2).toNatClampNeg) = (Int32.ofNat 0)) →
   (am_K h a0 = 11 ∧ ∃ q3, am_R h 10 37 a0 = some q3 ∧
   ((am_K h q3 = 21 ∨ am_K h q3 = 31) ∧ vp_in a2 (am_N h q3) ∧
   (am_K h q1 = 21 ∧ vp_in a2 (am_N h q1) ∧
   am_Ev tt 202 62 [some (.ref a0), none, some (.int a2), some (.int (Int32.ofNat 0)), none, none, none, none, none] [] (am_sA h q1 (a2).toNatClampNeg (am_A h q3 (a2).toNatClampNeg)) (am_pV Q Qx)))))))))) :
  am_Ev tt 202 35 [some (.ref a0), none, some (.int a2), none, none, none, none, none, none] [] h (am_pV Q Qx) := am_vc 19 [(7, [true, false, true, false, false, false, false, false, false]), (35, [true, false, true, false, false, false, false, false, false]), (62, [true, false, true, true, false, false, false, false, false]), (141, [true, false, true, true, true, true, true, false, false]), (181, [true, false, true, true, true, true, true, false, false]), (198, [true, false, true, true, true, true, true, true, false]), (237, [true, false, true, true, true, true, true, false, false]), (251, [true, false, true, true, true, true, true, false, false]), (279, [true, false, true, true, true, true, true, false, false]), (293, [true, false, true, true, true, true, true, false, false]), (321, [true, false, true, true, true, true, true, false, false]), (335, [true, false, true, true, true, true, true, false, false]), (345, [true, false, true, true, true, true, true, false, false]), (360, [true, false, true, true, true, false, true, true, false]), (380, [true, false, true, true, false, false, true, true, false]), (394, [true, false, true, true, true, true, true, true, false]), (419, [true, false, true, true, true, true, true, true, true]), (471, [true, false, true, true, true, true, true, true, false]), (483, [true, false, true, true, true, true, true, true, false]), (543, [true, false, true, true, true, true, true, false, false])] q
theorem vc_202_62 (tt : Nat → Nat) (a0 : Nat) (a2 : Int32) (a3 : Int32) (h : am_H) (Q : am_H → Prop) (Qx : String → am_H → Prop) (q :
  (((Int32.ofNat 3) ≤ a3 →
   am_Ev tt 202 7 [some (.ref a0), none, some (.int (a2 + (Int32.ofNat 1))), none, none, none, none, none, none] [] h (am_pV Q Qx)) ∧
  (¬ ((Int32.ofNat 3) ≤ a3) →
   (am_K h a0 = 11 ∧ ∃ q1, am_R h 10 15 a0 = some q1 ∧
   (am_K h a0 = 11 ∧ ∃ q2, am_R h 10 35 a0 = some q2 ∧
   ((am_K h q2 = 21 ∨ am_K h q2 = 31) ∧ vp_in (((Int32.ofNat 3) * a2) + a3) (am_N h q2) ∧
   (am_K h q1 = 21 ∧ vp_in (((Int32.ofNat 3) * a2) + a3) (am_N h q1) ∧
   (am_K h a0 = 11 ∧ ∃ q3, am_R h 10 16 a0 = some q3 ∧
   (am_K h a0 = 11 ∧ ∃ q4, am_R h 10 36 a0 = some q4 ∧
   ((am_K h q4 = 21 ∨ am_K h q4 = 31) ∧ vp_in (((Int32.ofNat 3) * a2) + a3) (am_N h q4) ∧
   (am_K h q3 = 21 ∧ vp_in (((Int32.ofNat 3) * a2) + a3) (am_N h q3) ∧
   am_Ev tt 202 62 [some (.ref a0), none, some (.int a2), some (.int (a3 + (Int32.ofNat 1))), none, none, none, none, none] [] (am_sA (am_sA h q1 ((((Int32.ofNat 3) * a2) + a3)).toNatClampNeg (am_A h q2 ((((Int32.ofNat 3) * a2) + a3)).toNatClampNeg)) q3 ((((Int32.ofNat 3) * a2) + a3)).toNatClampNeg (am_A (am_sA h q1 ((((Int32.ofNat 3) * a2) + a3)).toNatClampNeg (am_A h q2 ((((Int32.ofNat 3) * a2) + a3)).toNatClampNeg)) q4 ((((Int32.ofNat 3) * a2) + a3)).toNatClampNeg)) (am_pV Q Qx)))))))))))) :
  am_Ev tt 202 62 [some (.ref a0), none, some (.int a2), some (.int a3), none, none, none, none, none] [] h (am_pV Q Qx) := am_vc 40 [(7, [true, false, true, false, false, false, false, false, false]), (35, [true, false, true, false, false, false, false, false, false]), (62, [true, false, true, true, false, false, false, false, false]), (141, [true, false, true, true, true, true, true, false, false]), (181, [true, false, true, true, true, true, true, false, false]), (198, [true, false, true, true, true, true, true, true, false]), (237, [true, false, true, true, true, true, true, false, false]), (251, [true, false, true, true, true, true, true, false, false]), (279, [true, false, true, true, true, true, true, false, false]), (293, [true, false, true, true, true, true, true, false, false]), (321, [true, false, true, true, true, true, true, false, false]), (335, [true, false, true, true, true, true, true, false, false]), (345, [true, false, true, true, true, true, true, false, false]), (360, [true, false, true, true, true, false, true, true, false]), (380, [true, false, true, true, false, false, true, true, false]), (394, [true, false, true, true, true, true, true, true, false]), (419, [true, false, true, true, true, true, true, true, true]), (471, [true, false, true, true, true, true, true, true, false]), (483, [true, false, true, true, true, true, true, true, false]), (543, [true, false, true, true, true, true, true, false, false])] q
theorem vc_202_141 (tt : Nat → Nat) (a0 : Nat) (a2 : Int32) (a3 : Int32) (a4 : Int32) (a5 : Int32) (a6 : Int32) (h : am_H) (Q : am_H → Prop) (Qx : String → am_H → Prop) (q :
  (am_K h a0 = 11 ∧
  (((am_I h 10 41 a0) ≤ a6 →
   Q h) ∧
  (¬ ((am_I h 10 41 a0) ≤ a6) →
   (am_K h a0 = 11 ∧ ∃ q1, am_R h 10 42 a0 = some q1 ∧
   ((am_K h q1 = 23 ∨ am_K h q1 = 24) ∧ vp_in a6 (am_N h q1) ∧
   (((am_A h q1 (a6).toNatClampNeg) = (Int32.ofNat 0) →
    (am_K h a0 = 11 ∧ ∃ (Q3 : am_H → Prop) (X3 : String → am_H → Prop), am_Ct tt 136 [.ref a0, .int a6, .int (Int32.ofNat 0)] h (am_pV Q3 X3) ∧ (∀ h2, Q3 h2 →
     am_Ev tt 202 181 [some (.ref a0), none, some (.int a2), some (.int a3), some (.int a4), some (.int a5), some (.int a6), none, none] [] h2 (am_pV Q Qx)) ∧ (∀ E4 h2, X3 E4 h2 → Qx E4 h2))) ∧
   (¬ ((am_A h q1 (a6).toNatClampNeg) = (Int32.ofNat 0)) →
    (am_K h a0 = 11 ∧ ∃ q5, am_R h 10 43 a0 = some q5 ∧
    ((am_K h q5 = 23 ∨ am_K h q5 = 24) ∧ vp_in a6 (am_N h q5) ∧
    ((¬ (am_A h q5 (a6).toNatClampNeg) = (Int32.ofNat 0) →
     (am_K h a0 = 11 ∧ ∃ (Q7 : am_H → Prop) (X7 : String → am_H → Prop), am_Ct tt 136 [.ref a0, .int a6, .int (Int32.ofNat 0)] h (am_pV Q7 X7) ∧ (∀ h6, Q7 h6 →
      am_Ev tt 202 181 [some (.ref a0), none, some (.int a2), some (.int a3), some (.int a4), some (.int a5), some (.int a6), none, none] [] h6 (am_pV Q Qx)) ∧ (∀ E8 h6, X7 E8 h6 → Qx E8 h6))) ∧
    (¬ (¬ (am_A h q5 (a6).toNatClampNeg) = (Int32.ofNat 0)) →
     (am_K h a0 = 11 ∧ ∃ (Q10 : am_H → Prop) (X10 : String → am_H → Prop), am_Ct tt 136 [.ref a0, .int a6, .int (Int32.ofNat 1)] h (am_pV Q10 X10) ∧ (∀ h9, Q10 h9 →
      am_Ev tt 202 181 [some (.ref a0), none, some (.int a2), some (.int a3), some (.int a4), some (.int a5), some (.int a6), none, none] [] h9 (am_pV Q Qx)) ∧ (∀ E11 h9, X10 E11 h9 → Qx E11 h9)))))))))))))) :
  am_Ev tt 202 141 [some (.ref a0), none, some (.int a2), some (.int a3), some (.int a4), some (.int a5), some (.int a6), none, none] [] h (am_pV Q Qx) := am_vc 22 [(7, [true, false, true, false, false, false, false, false, false]), (35, [true, false, true, false, false, false, false, false, false]), (62, [true, false, true, true, false, false, false, false, false]), (141, [true, false, true, true, true, true, true, false, false]), (181, [true, false, true, true, true, true, true, false, false]), (198, [true, false, true, true, true, true, true, true, false]), (237, [true, false, true, true, true, true, true, false, false]), (251, [true, false, true, true, true, true, true, false, false]), (279, [true, false, true, true, true, true, true, false, false]), (293, [true, false, true, true, true, true, true, false, false]), (321, [true, false, true, true, true, true, true, false, false]), (335, [true, false, true, true, true, true, true, false, false]), (345, [true, false, true, true, true, true, true, false, false]), (360, [true, false, true, true, true, false, true, true, false]), (380, [true, false, true, true, false, false, true, true, false]), (394, [true, false, true, true, true, true, true, true, false]), (419, [true, false, true, true, true, true, true, true, true]), (471, [true, false, true, true, true, true, true, true, false]), (483, [true, false, true, true, true, true, true, true, false]), (543, [true, false, true, true, true, true, true, false, false])] q
theorem vc_202_181 (tt : Nat → Nat) (a0 : Nat) (a2 : Int32) (a3 : Int32) (a4 : Int32) (a5 : Int32) (a6 : Int32) (h : am_H) (Q : am_H → Prop) (Qx : String → am_H → Prop) (q :
  (am_K h a0 = 11 ∧ ∃ q1, am_R h 10 3 a0 = some q1 ∧
  (am_K h a0 = 11 ∧ ∃ q2, am_R h 10 45 a0 = some q2 ∧
  ((am_K h q2 = 21 ∨ am_K h q2 = 31) ∧ vp_in a6 (am_N h q2) ∧
  (am_K h q1 = 21 ∧ vp_in a6 (am_N h q1) ∧
  am_Ev tt 202 198 [some (.ref a0), none, some (.int a2), some (.int a3), some (.int a4), some (.int a5), some (.int a6), some (.int (Int32.ofNat 0)), none] [] (am_sA h q1 (a6).toNatClampNeg (am_A h q2 (a6).toNatClampNeg)) (am_pV Q Qx)))))) :
  am_Ev tt 202 181 [some (.ref a0), none, some (.int a2), some (.int a3), some (.int a4), some (.int a5), some (.int a6), none, none] [] h (am_pV Q Qx) := am_vc 13 [(7, [true, false, true, false, false, false, false, false, false]), (35, [true, false, true, false, false, false, false, false, false]), (62, [true, false, true, true, false, false, false, false, false]), (141, [true, false, true, true, true, true, true, false, false]), (181, [true, false, true, true, true, true, true, false, false]), (198, [true, false, true, true, true, true, true, true, false]), (237, [true, false, true, true, true, true, true, false, false]), (251, [true, false, true, true, true, true, true, false, false]), (279, [true, false, true, true, true, true, true, false, false]), (293, [true, false, true, true, true, true, true, false, false]), (321, [true, false, true, true, true, true, true, false, false]), (335, [true, false, true, true, true, true, true, false, false]), (345, [true, false, true, true, true, true, true, false, false]), (360, [true, false, true, true, true, false, true, true, false]), (380, [true, false, true, true, false, false, true, true, false]), (394, [true, false, true, true, true, true, true, true, false]), (419, [true, false, true, true, true, true, true, true, true]), (471, [true, false, true, true, true, true, true, true, false]), (483, [true, false, true, true, true, true, true, true, false]), (543, [true, false, true, true, true, true, true, false, false])] q
theorem vc_202_198 (tt : Nat → Nat) (a0 : Nat) (a2 : Int32) (a3 : Int32) (a4 : Int32) (a5 : Int32) (a6 : Int32) (a7 : Int32) (h : am_H) (Q : am_H → Prop) (Qx : String → am_H → Prop) (q :
  (((Int32.ofNat 20) ≤ a7 →
   am_Ev tt 202 237 [some (.ref a0), none, some (.int a2), some (.int a3), some (.int a4), some (.int a5), some (.int a6), none, none] [] h (am_pV Q Qx)) ∧
  (¬ ((Int32.ofNat 20) ≤ a7) →
   (am_K h a0 = 11 ∧ ∃ q1, am_R h 10 4 a0 = some q1 ∧
   (am_K h a0 = 11 ∧ ∃ q2, am_R h 10 46 a0 = some q2 ∧
   ((am_K h q2 = 21 ∨ am_K h q2 = 31) ∧ vp_in (((Int32.ofNat 20) * a6) + a7) (am_N h q2) ∧
   (am_K h q1 = 21 ∧ vp_in (((Int32.ofNat 20) * a6) + a7) (am_N h q1) ∧
   am_Ev tt 202 198 [some (.ref a0), none, some (.int a2), some (.int a3), some (.int a4), some (.int a5), some (.int a6), some (.int (a7 + (Int32.ofNat 1))), none] [] (am_sA h q1 ((((Int32.ofNat 20) * a6) + a7)).toNatClampNeg (am_A h q2 ((((Int32.ofNat 20) * a6) + a7)).toNatClampNeg)) (am_pV Q Qx)))))))) :
  am_Ev tt 202 198 [some (.ref a0), none, some (.int a2), some (.int a3), some (.int a4), some (.int a5), some (.int a6), some (.int a7), none] [] h (am_pV Q Qx) := am_vc 24 [(7, [true, false, true, false, false, false, false, false, false]), (35, [true, false, true, false, false, false, false, false, false]), (62, [true, false, true, true, false, false, false, false, false]), (141, [true, false, true, true, true, true, true, false, false]), (181, [true, false, true, true, true, true, true, false, false]), (198, [true, false, true, true, true, true, true, true, false]), (237, [true, false, true, true, true, true, true, false, false]), (251, [true, false, true, true, true, true, true, false, false]), (279, [true, false, true, true, true, true, true, false, false]), (293, [true, false, true, true, true, true, true, false, false]), (321, [true, false, true, true, true, true, true, false, false]), (335, [true, false, true, true, true, true, true, false, false]), (345, [true, false, true, true, true, true, true, false, false]), (360, [true, false, true, true, true, false, true, true, false]), (380, [true, false, true, true, false, false, true, true, false]), (394, [true, false, true, true, true, true, true, true, false]), (419, [true, false, true, true, true, true, true, true, true]), (471, [true, false, true, true, true, true, true, true, false]), (483, [true, false, true, true, true, true, true, true, false]), (543, [true, false, true, true, true, true, true, false, false])] q
set_option maxRecDepth 4096 in
theorem vc_202_237 (tt : Nat → Nat) (a0 : Nat) (a2 : Int32) (a3 : Int32) (a4 : Int32) (a5 : Int32) (a6 : Int32) (h : am_H) (Q : am_H → Prop) (Qx : String → am_H → Prop) (q :
  (am_K h a0 = 11 ∧ ∃ q1, am_R h 10 5 a0 = some q1 ∧
  (am_K h a0 = 11 ∧ ∃ q2, am_R h 10 47 a0 = some q2 ∧
  ((am_K h q2 = 23 ∨ am_K h q2 = 24) ∧ vp_in a6 (am_N h q2) ∧
  (vp_in a6 (am_N h q1) ∧ ∃ w3, ((am_K h q1 = 23 ∧ w3 = ((am_A h q2 (a6).toNatClampNeg)).toInt8.toInt32) ∨ (am_K h q1 = 24 ∧ w3 = ((am_A h q2 (a6).toNatClampNeg) &&& 1))) ∧
  am_Ev tt 202 251 [some (.ref a0), none, some (.int a2), some (.int a3), some (.int a4), some (.int a5), some (.int a6), none, none] [] (am_sA h q1 (a6).toNatClampNeg w3) (am_pV Q Qx)))))) :
  am_Ev tt 202 237 [some (.ref a0), none, some (.int a2), some (.int a3), some (.int a4), some (.int a5), some (.int a6), none, none] [] h (am_pV Q Qx) := am_vc 11 [(7, [true, false, true, false, false, false, false, false, false]), (35, [true, false, true, false, false, false, false, false, false]), (62, [true, false, true, true, false, false, false, false, false]), (141, [true, false, true, true, true, true, true, false, false]), (181, [true, false, true, true, true, true, true, false, false]), (198, [true, false, true, true, true, true, true, true, false]), (237, [true, false, true, true, true, true, true, false, false]), (251, [true, false, true, true, true, true, true, false, false]), (279, [true, false, true, true, true, true, true, false, false]), (293, [true, false, true, true, true, true, true, false, false]), (321, [true, false, true, true, true, true, true, false, false]), (335, [true, false, true, true, true, true, true, false, false]), (345, [true, false, true, true, true, true, true, false, false]), (360, [true, false, true, true, true, false, true, true, false]), (380, [true, false, true, true, false, false, true, true, false]), (394, [true, false, true, true, true, true, true, true, false]), (419, [true, false, true, true, true, true, true, true, true]), (471, [true, false, true, true, true, true, true, true, false]), (483, [true, false, true, true, true, true, true, true, false]), (543, [true, false, true, true, true, true, true, false, false])] q
set_option maxRecDepth 4096 in
theorem vc_202_251 (tt : Nat → Nat) (a0 : Nat) (a2 : Int32) (a3 : Int32) (a4 : Int32) (a5 : Int32) (a6 : Int32) (h : am_H) (Q : am_H → Prop) (Qx : String → am_H → Prop) (q :
  (am_K h a0 = 11 ∧ ∃ q1, am_R h 10 6 a0 = some q1 ∧
  (am_K h a0 = 11 ∧ ∃ q2, am_R h 10 5 a0 = some q2 ∧
  ((am_K h q2 = 23 ∨ am_K h q2 = 24) ∧ vp_in a6 (am_N h q2) ∧
  (((am_A h q2 (a6).toNatClampNeg) = (Int32.ofNat 0) →
   (am_K h q1 = 22 ∧ vp_in a6 (am_N h q1) ∧
   am_Ev tt 202 279 [some (.ref a0), none, some (.int a2), some (.int a3), some (.int a4), some (.int a5), some (.int a6), none, none] [] (am_sB h q1 (a6).toNatClampNeg (Int64.ofNat 0)) (am_pV Q Qx))) ∧
  (¬ ((am_A h q2 (a6).toNatClampNeg) = (Int32.ofNat 0)) →
   (am_K h a0 = 11 ∧ ∃ q3, am_R h 10 48 a0 = some q3 ∧
   (am_K h q3 = 22 ∧ vp_in a6 (am_N h q3) ∧
   (am_K h q1 = 22 ∧ vp_in a6 (am_N h q1) ∧
   am_Ev tt 202 279 [some (.ref a0), none, some (.int a2), some (.int a3), some (.int a4), some (.int a5), some (.int a6), none, none] [] (am_sB h q1 (a6).toNatClampNeg (am_B h q3 (a6).toNatClampNeg)) (am_pV Q Qx)))))))))) :
  am_Ev tt 202 251 [some (.ref a0), none, some (.int a2), some (.int a3), some (.int a4), some (.int a5), some (.int a6), none, none] [] h (am_pV Q Qx) := am_vc 17 [(7, [true, false, true, false, false, false, false, false, false]), (35, [true, false, true, false, false, false, false, false, false]), (62, [true, false, true, true, false, false, false, false, false]), (141, [true, false, true, true, true, true, true, false, false]), (181, [true, false, true, true, true, true, true, false, false]), (198, [true, false, true, true, true, true, true, true, false]), (237, [true, false, true, true, true, true, true, false, false]), (251, [true, false, true, true, true, true, true, false, false]), (279, [true, false, true, true, true, true, true, false, false]), (293, [true, false, true, true, true, true, true, false, false]), (321, [true, false, true, true, true, true, true, false, false]), (335, [true, false, true, true, true, true, true, false, false]), (345, [true, false, true, true, true, true, true, false, false]), (360, [true, false, true, true, true, false, true, true, false]), (380, [true, false, true, true, false, false, true, true, false]), (394, [true, false, true, true, true, true, true, true, false]), (419, [true, false, true, true, true, true, true, true, true]), (471, [true, false, true, true, true, true, true, true, false]), (483, [true, false, true, true, true, true, true, true, false]), (543, [true, false, true, true, true, true, true, false, false])] q
set_option maxRecDepth 4096 in
theorem vc_202_279 (tt : Nat → Nat) (a0 : Nat) (a2 : Int32) (a3 : Int32) (a4 : Int32) (a5 : Int32) (a6 : Int32) (h : am_H) (Q : am_H → Prop) (Qx : String → am_H → Prop) (q :
  (am_K h a0 = 11 ∧ ∃ q1, am_R h 10 7 a0 = some q1 ∧
  (am_K h a0 = 11 ∧ ∃ q2, am_R h 10 49 a0 = some q2 ∧
  ((am_K h q2 = 23 ∨ am_K h q2 = 24) ∧ vp_in a6 (am_N h q2) ∧
  (vp_in a6 (am_N h q1) ∧ ∃ w3, ((am_K h q1 = 23 ∧ w3 = ((am_A h q2 (a6).toNatClampNeg)).toInt8.toInt32) ∨ (am_K h q1 = 24 ∧ w3 = ((am_A h q2 (a6).toNatClampNeg) &&& 1))) ∧
  am_Ev tt 202 293 [some (.ref a0), none, some (.int a2), some (.int a3), some (.int a4), some (.int a5), some (.int a6), none, none] [] (am_sA h q1 (a6).toNatClampNeg w3) (am_pV Q Qx)))))) :
  am_Ev tt 202 279 [some (.ref a0), none, some (.int a2), some (.int a3), some (.int a4), some (.int a5), some (.int a6), none, none] [] h (am_pV Q Qx) := am_vc 11 [(7, [true, false, true, false, false, false, false, false, false]), (35, [true, false, true, false, false, false, false, false, false]), (62, [true, false, true, true, false, false, false, false, false]), (141, [true, false, true, true, true, true, true, false, false]), (181, [true, false, true, true, true, true, true, false, false]), (198, [true, false, true, true, true, true, true, true, false]), (237, [true, false, true, true, true, true, true, false, false]), (251, [true, false, true, true, true, true, true, false, false]), (279, [true, false, true, true, true, true, true, false, false]), (293, [true, false, true, true, true, true, true, false, false]), (321, [true, false, true, true, true, true, true, false, false]), (335, [true, false, true, true, true, true, true, false, false]), (345, [true, false, true, true, true, true, true, false, false]), (360, [true, false, true, true, true, false, true, true, false]), (380, [true, false, true, true, false, false, true, true, false]), (394, [true, false, true, true, true, true, true, true, false]), (419, [true, false, true, true, true, true, true, true, true]), (471, [true, false, true, true, true, true, true, true, false]), (483, [true, false, true, true, true, true, true, true, false]), (543, [true, false, true, true, true, true, true, false, false])] q
set_option maxRecDepth 4096 in
theorem vc_202_293 (tt : Nat → Nat) (a0 : Nat) (a2 : Int32) (a3 : Int32) (a4 : Int32) (a5 : Int32) (a6 : Int32) (h : am_H) (Q : am_H → Prop) (Qx : String → am_H → Prop) (q :
  (am_K h a0 = 11 ∧ ∃ q1, am_R h 10 8 a0 = some q1 ∧
  (am_K h a0 = 11 ∧ ∃ q2, am_R h 10 7 a0 = some q2 ∧
  ((am_K h q2 = 23 ∨ am_K h q2 = 24) ∧ vp_in a6 (am_N h q2) ∧
  (((am_A h q2 (a6).toNatClampNeg) = (Int32.ofNat 0) →
   (am_K h q1 = 21 ∧ vp_in a6 (am_N h q1) ∧
   am_Ev tt 202 321 [some (.ref a0), none, some (.int a2), some (.int a3), some (.int a4), some (.int a5), some (.int a6), none, none] [] (am_sA h q1 (a6).toNatClampNeg (Int32.ofNat 0)) (am_pV Q Qx))) ∧
  (¬ ((am_A h q2 (a6).toNatClampNeg) = (Int32.ofNat 0)) →
   (am_K h a0 = 11 ∧ ∃ q3, am_R h 10 50 a0 = some q3 ∧
   ((am_K h q3 = 21 ∨ am_K h q3 = 31) ∧ vp_in a6 (am_N h q3) ∧
   (am_K h q1 = 21 ∧ vp_in a6 (am_N h q1) ∧
   am_Ev tt 202 321 [some (.ref a0), none, some (.int a2), some (.int a3), some (.int a4), some (.int a5), some (.int a6), none, none] [] (am_sA h q1 (a6).toNatClampNeg (am_A h q3 (a6).toNatClampNeg)) (am_pV Q Qx)))))))))) :
  am_Ev tt 202 293 [some (.ref a0), none, some (.int a2), some (.int a3), some (.int a4), some (.int a5), some (.int a6), none, none] [] h (am_pV Q Qx) := am_vc 17 [(7, [true, false, true, false, false, false, false, false, false]), (35, [true, false, true, false, false, false, false, false, false]), (62, [true, false, true, true, false, false, false, false, false]), (141, [true, false, true, true, true, true, true, false, false]), (181, [true, false, true, true, true, true, true, false, false]), (198, [true, false, true, true, true, true, true, true, false]), (237, [true, false, true, true, true, true, true, false, false]), (251, [true, false, true, true, true, true, true, false, false]), (279, [true, false, true, true, true, true, true, false, false]), (293, [true, false, true, true, true, true, true, false, false]), (321, [true, false, true, true, true, true, true, false, false]), (335, [true, false, true, true, true, true, true, false, false]), (345, [true, false, true, true, true, true, true, false, false]), (360, [true, false, true, true, true, false, true, true, false]), (380, [true, false, true, true, false, false, true, true, false]), (394, [true, false, true, true, true, true, true, true, false]), (419, [true, false, true, true, true, true, true, true, true]), (471, [true, false, true, true, true, true, true, true, false]), (483, [true, false, true, true, true, true, true, true, false]), (543, [true, false, true, true, true, true, true, false, false])] q
set_option maxRecDepth 4096 in
theorem vc_202_321 (tt : Nat → Nat) (a0 : Nat) (a2 : Int32) (a3 : Int32) (a4 : Int32) (a5 : Int32) (a6 : Int32) (h : am_H) (Q : am_H → Prop) (Qx : String → am_H → Prop) (q :
  (am_K h a0 = 11 ∧ ∃ q1, am_R h 10 12 a0 = some q1 ∧
  (am_K h a0 = 11 ∧ ∃ q2, am_R h 10 44 a0 = some q2 ∧
  ((am_K h q2 = 23 ∨ am_K h q2 = 24) ∧ vp_in a6 (am_N h q2) ∧
  (vp_in a6 (am_N h q1) ∧ ∃ w3, ((am_K h q1 = 23 ∧ w3 = ((am_A h q2 (a6).toNatClampNeg)).toInt8.toInt32) ∨ (am_K h q1 = 24 ∧ w3 = ((am_A h q2 (a6).toNatClampNeg) &&& 1))) ∧
  am_Ev tt 202 335 [some (.ref a0), none, some (.int a2), some (.int a3), some (.int a4), some (.int a5), some (.int a6), none, none] [] (am_sA h q1 (a6).toNatClampNeg w3) (am_pV Q Qx)))))) :
  am_Ev tt 202 321 [some (.ref a0), none, some (.int a2), some (.int a3), some (.int a4), some (.int a5), some (.int a6), none, none] [] h (am_pV Q Qx) := am_vc 11 [(7, [true, false, true, false, false, false, false, false, false]), (35, [true, false, true, false, false, false, false, false, false]), (62, [true, false, true, true, false, false, false, false, false]), (141, [true, false, true, true, true, true, true, false, false]), (181, [true, false, true, true, true, true, true, false, false]), (198, [true, false, true, true, true, true, true, true, false]), (237, [true, false, true, true, true, true, true, false, false]), (251, [true, false, true, true, true, true, true, false, false]), (279, [true, false, true, true, true, true, true, false, false]), (293, [true, false, true, true, true, true, true, false, false]), (321, [true, false, true, true, true, true, true, false, false]), (335, [true, false, true, true, true, true, true, false, false]), (345, [true, false, true, true, true, true, true, false, false]), (360, [true, false, true, true, true, false, true, true, false]), (380, [true, false, true, true, false, false, true, true, false]), (394, [true, false, true, true, true, true, true, true, false]), (419, [true, false, true, true, true, true, true, true, true]), (471, [true, false, true, true, true, true, true, true, false]), (483, [true, false, true, true, true, true, true, true, false]), (543, [true, false, true, true, true, true, true, false, false])] q
set_option maxRecDepth 4096 in
theorem vc_202_335 (tt : Nat → Nat) (a0 : Nat) (a2 : Int32) (a3 : Int32) (a4 : Int32) (a5 : Int32) (a6 : Int32) (h : am_H) (Q : am_H → Prop) (Qx : String → am_H → Prop) (q :
  (am_K h a0 = 11 ∧ ∃ q1, am_R h 10 42 a0 = some q1 ∧
  ((am_K h q1 = 23 ∨ am_K h q1 = 24) ∧ vp_in a6 (am_N h q1) ∧
  ((¬ (am_A h q1 (a6).toNatClampNeg) = (Int32.ofNat 0) →
   am_Ev tt 202 543 [some (.ref a0), none, some (.int a2), some (.int a3), some (.int a4), some (.int a5), some (.int a6), none, none] [] h (am_pV Q Qx)) ∧
  (¬ (¬ (am_A h q1 (a6).toNatClampNeg) = (Int32.ofNat 0)) →
   am_Ev tt 202 345 [some (.ref a0), none, some (.int a2), some (.int a3), some (.int a4), some (.int a5), some (.int a6), none, none] [] h (am_pV Q Qx)))))) :
  am_Ev tt 202 335 [some (.ref a0), none, some (.int a2), some (.int a3), some (.int a4), some (.int a5), some (.int a6), none, none] [] h (am_pV Q Qx) := am_vc 8 [(7, [true, false, true, false, false, false, false, false, false]), (35, [true, false, true, false, false, false, false, false, false]), (62, [true, false, true, true, false, false, false, false, false]), (141, [true, false, true, true, true, true, true, false, false]), (181, [true, false, true, true, true, true, true, false, false]), (198, [true, false, true, true, true, true, true, true, false]), (237, [true, false, true, true, true, true, true, false, false]), (251, [true, false, true, true, true, true, true, false, false]), (279, [true, false, true, true, true, true, true, false, false]), (293, [true, false, true, true, true, true, true, false, false]), (321, [true, false, true, true, true, true, true, false, false]), (335, [true, false, true, true, true, true, true, false, false]), (345, [true, false, true, true, true, true, true, false, false]), (360, [true, false, true, true, true, false, true, true, false]), (380, [true, false, true, true, false, false, true, true, false]), (394, [true, false, true, true, true, true, true, true, false]), (419, [true, false, true, true, true, true, true, true, true]), (471, [true, false, true, true, true, true, true, true, false]), (483, [true, false, true, true, true, true, true, true, false]), (543, [true, false, true, true, true, true, true, false, false])] q
set_option maxRecDepth 4096 in
theorem vc_202_345 (tt : Nat → Nat) (a0 : Nat) (a2 : Int32) (a3 : Int32) (a4 : Int32) (a5 : Int32) (a6 : Int32) (h : am_H) (Q : am_H → Prop) (Qx : String → am_H → Prop) (q :
  (am_K h a0 = 11 ∧ ∃ q1, am_R h 10 39 a0 = some q1 ∧
  ((am_K h q1 = 21 ∨ am_K h q1 = 31) ∧ vp_in a3 (am_N h q1) ∧
  (((am_A h q1 (a3).toNatClampNeg) = a4 →
   am_Ev tt 202 394 [some (.ref a0), none, some (.int a2), some (.int a3), some (.int a4), some (.int a5), some (.int a6), some (.int (am_A h q1 (a3).toNatClampNeg)), none] [] h (am_pV Q Qx)) ∧
  (¬ ((am_A h q1 (a3).toNatClampNeg) = a4) →
   am_Ev tt 202 360 [some (.ref a0), none, some (.int a2), some (.int a3), some (.int a4), none, some (.int a6), some (.int (am_A h q1 (a3).toNatClampNeg)), none] [] h (am_pV Q Qx)))))) :
  am_Ev tt 202 345 [some (.ref a0), none, some (.int a2), some (.int a3), some (.int a4), some (.int a5), some (.int a6), none, none] [] h (am_pV Q Qx) := am_vc 11 [(7, [true, false, true, false, false, false, false, false, false]), (35, [true, false, true, false, false, false, false, false, false]), (62, [true, false, true, true, false, false, false, false, false]), (141, [true, false, true, true, true, true, true, false, false]), (181, [true, false, true, true, true, true, true, false, false]), (198, [true, false, true, true, true, true, true, true, false]), (237, [true, false, true, true, true, true, true, false, false]), (251, [true, false, true, true, true, true, true, false, false]), (279, [true, false, true, true, true, true, true, false, false]), (293, [true, false, true, true, true, true, true, false, false]), (321, [true, false, true, true, true, true, true, false, false]), (335, [true, false, true, true, true, true, true, false, false]), (345, [true, false, true, true, true, true, true, false, false]), (360, [true, false, true, true, true, false, true, true, false]), (380, [true, false, true, true, false, false, true, true, false]), (394, [true, false, true, true, true, true, true, true, false]), (419, [true, false, true, true, true, true, true, true, true]), (471, [true, false, true, true, true, true, true, true, false]), (483, [true, false, true, true, true, true, true, true, false]), (543, [true, false, true, true, true, true, true, false, false])] q
set_option maxRecDepth 4096 in
theorem vc_202_360 (tt : Nat → Nat) (a0 : Nat) (a2 : Int32) (a3 : Int32) (a4 : Int32) (a6 : Int32) (a7 : Int32) (h : am_H) (Q : am_H → Prop) (Qx : String → am_H → Prop) (q :
  ((¬ a4 = (-1 : Int32) →
   (am_K h a0 = 11 ∧ ∃ q1, am_R h 10 31 a0 = some q1 ∧
   ((am_K h q1 = 21 ∨ am_K h q1 = 31) ∧ vp_in a4 (am_N h q1) ∧
   am_Ev tt 202 380 [some (.ref a0), none, some (.int (a2 + (am_A h q1 (a4).toNatClampNeg))), some (.int a3), none, none, some (.int a6), some (.int a7), none] [] h (am_pV Q Qx)))) ∧
  (¬ (¬ a4 = (-1 : Int32)) →
   am_Ev tt 202 380 [some (.ref a0), none, some (.int (a2 + (Int32.ofNat 0))), some (.int a3), none, none, some (.int a6), some (.int a7), none] [] h (am_pV Q Qx)))) :
  am_Ev tt 202 360 [some (.ref a0), none, some (.int a2), some (.int a3), some (.int a4), none, some (.int a6), some (.int a7), none] [] h (am_pV Q Qx) := am_vc 13 [(7, [true, false, true, false, false, false, false, false, false]), (35, [true, false, true, false, false, false, false, false, false]), (62, [true, false, true, true, false, false, false, false, false]), (141, [true, false, true, true, true, true, true, false, false]), (181, [true, false, true, true, true, true, true, false, false]), (198, [true, false, true, true, true, true, true, true, false]), (237, [true, false, true, true, true, true, true, false, false]), (251, [true, false, true, true, true, true, true, false, false]), (279, [true, false, true, true, true, true, true, false, false]), (293, [true, false, true, true, true, true, true, false, false]), (321, [true, false, true, true, true, true, true, false, false]), (335, [true, false, true, true, true, true, true, false, false]), (345, [true, false, true, true, true, true, true, false, false]), (360, [true, false, true, true, true, false, true, true, false]), (380, [true, false, true, true, false, false, true, true, false]), (394, [true, false, true, true, true, true, true, true, false]), (419, [true, false, true, true, true, true, true, true, true]), (471, [true, false, true, true, true, true, true, true, false]), (483, [true, false, true, true, true, true, true, true, false]), (543, [true, false, true, true, true, true, true, false, false])] q
set_option maxRecDepth 4096 in
theorem vc_202_380 (tt : Nat → Nat) (a0 : Nat) (a2 : Int32) (a3 : Int32) (a6 : Int32) (a7 : Int32) (h : am_H) (Q : am_H → Prop) (Qx : String → am_H → Prop) (q :
  (am_K h a0 = 11 ∧ ∃ (Q2 : am_H → Prop) (X2 : String → am_H → Prop), am_Ct tt 201 [.ref a0, .int a7, .int a2] h (am_pV Q2 X2) ∧ (∀ h1, Q2 h1 →
   am_Ev tt 202 394 [some (.ref a0), none, some (.int a2), some (.int a3), some (.int a7), some (.int (Int32.ofNat 0)), some (.int a6), some (.int a7), none] [] h1 (am_pV Q Qx)) ∧ (∀ E3 h1, X2 E3 h1 → Qx E3 h1))) :
  am_Ev tt 202 380 [some (.ref a0), none, some (.int a2), some (.int a3), none, none, some (.int a6), some (.int a7), none] [] h (am_pV Q Qx) := am_vc 11 [(7, [true, false, true, false, false, false, false, false, false]), (35, [true, false, true, false, false, false, false, false, false]), (62, [true, false, true, true, false, false, false, false, false]), (141, [true, false, true, true, true, true, true, false, false]), (181, [true, false, true, true, true, true, true, false, false]), (198, [true, false, true, true, true, true, true, true, false]), (237, [true, false, true, true, true, true, true, false, false]), (251, [true, false, true, true, true, true, true, false, false]), (279, [true, false, true, true, true, true, true, false, false]), (293, [true, false, true, true, true, true, true, false, false]), (321, [true, false, true, true, true, true, true, false, false]), (335, [true, false, true, true, true, true, true, false, false]), (345, [true, false, true, true, true, true, true, false, false]), (360, [true, false, true, true, true, false, true, true, false]), (380, [true, false, true, true, false, false, true, true, false]), (394, [true, false, true, true, true, true, true, true, false]), (419, [true, false, true, true, true, true, true, true, true]), (471, [true, false, true, true, true, true, true, true, false]), (483, [true, false, true, true, true, true, true, true, false]), (543, [true, false, true, true, true, true, true, false, false])] q
set_option maxRecDepth 4096 in
theorem vc_202_394 (tt : Nat → Nat) (a0 : Nat) (a2 : Int32) (a3 : Int32) (a4 : Int32) (a5 : Int32) (a6 : Int32) (a7 : Int32) (h : am_H) (Q : am_H → Prop) (Qx : String → am_H → Prop) (q :
  (am_K h a0 = 11 ∧ ∃ q1, am_R h 10 9 a0 = some q1 ∧
  (am_K h a0 = 11 ∧ ∃ q2, am_R h 10 38 a0 = some q2 ∧
  ((am_K h q2 = 21 ∨ am_K h q2 = 31) ∧ vp_in a3 (am_N h q2) ∧
  (am_K h q1 = 21 ∧ vp_in a6 (am_N h q1) ∧
  (am_K h a0 = 11 ∧ ∃ q3, am_R h 10 11 a0 = some q3 ∧
  (am_K h q3 = 21 ∧ vp_in a6 (am_N h q3) ∧
  am_Ev tt 202 419 [some (.ref a0), none, some (.int a2), some (.int a3), some (.int a4), some (.int a5), some (.int a6), some (.int a7), some (.int (Int32.ofNat 0))] [] (am_sA (am_sA h q1 (a6).toNatClampNeg (am_A h q2 (a3).toNatClampNeg)) q3 (a6).toNatClampNeg a7) (am_pV Q Qx)))))))) :
  am_Ev tt 202 394 [some (.ref a0), none, some (.int a2), some (.int a3), some (.int a4), some (.int a5), some (.int a6), some (.int a7), none] [] h (am_pV Q Qx) := am_vc 18 [(7, [true, false, true, false, false, false, false, false, false]), (35, [true, false, true, false, false, false, false, false, false]), (62, [true, false, true, true, false, false, false, false, false]), (141, [true, false, true, true, true, true, true, false, false]), (181, [true, false, true, true, true, true, true, false, false]), (198, [true, false, true, true, true, true, true, true, false]), (237, [true, false, true, true, true, true, true, false, false]), (251, [true, false, true, true, true, true, true, false, false]), (279, [true, false, true, true, true, true, true, false, false]), (293, [true, false, true, true, true, true, true, false, false]), (321, [true, false, true, true, true, true, true, false, false]), (335, [true, false, true, true, true, true, true, false, false]), (345, [true, false, true, true, true, true, true, false, false]), (360, [true, false, true, true, true, false, true, true, false]), (380, [true, false, true, true, false, false, true, true, false]), (394, [true, false, true, true, true, true, true, true, false]), (419, [true, false, true, true, true, true, true, true, true]), (471, [true, false, true, true, true, true, true, true, false]), (483, [true, false, true, true, true, true, true, true, false]), (543, [true, false, true, true, true, true, true, false, false])] q
set_option maxRecDepth 4096 in
theorem vc_202_419 (tt : Nat → Nat) (a0 : Nat) (a2 : Int32) (a3 : Int32) (a4 : Int32) (a5 : Int32) (a6 : Int32) (a7 : Int32) (a8 : Int32) (h : am_H) (Q : am_H → Prop) (Qx : String → am_H → Prop) (q :
  (am_K h a0 = 11 ∧ ∃ q1, am_R h 10 34 a0 = some q1 ∧
  ((am_K h q1 = 23 ∨ am_K h q1 = 24) ∧ vp_in a7 (am_N h q1) ∧
  (((am_A h q1 (a7).toNatClampNeg) = (Int32.ofNat 0) →
   am_Ev tt 202 471 [some (.ref a0), none, some (.int a2), some (.int a3), some (.int a4), some (.int a5), some (.int a6), some (.int a7), none] [] h (am_pV Q Qx)) ∧
  (¬ ((am_A h q1 (a7).toNatClampNeg) = (Int32.ofNat 0)) →
   (am_K h a0 = 11 ∧ ∃ q2, am_R h 10 9 a0 = some q2 ∧
   ((am_K h q2 = 21 ∨ am_K h q2 = 31) ∧ vp_in a6 (am_N h q2) ∧
   (((am_A h q2 (a6).toNatClampNeg) ≤ a8 →
    am_Ev tt 202 471 [some (.ref a0), none, some (.int a2), some (.int a3), some (.int a4), some (.int a5), some (.int a6), some (.int a7), none] [] h (am_pV Q Qx)) ∧
   (¬ ((am_A h q2 (a6).toNatClampNeg) ≤ a8) →
    (am_K h a0 = 11 ∧ ∃ q3, am_R h 10 10 a0 = some q3 ∧
    (am_K h a0 = 11 ∧ ∃ q4, am_R h 10 21 a0 = some q4 ∧
    ((am_K h q4 = 23 ∨ am_K h q4 = 24) ∧ vp_in (a5 + a8) (am_N h q4) ∧
    (vp_in (((Int32.ofNat 2400) * a6) + a8) (am_N h q3) ∧ ∃ w5, ((am_K h q3 = 23 ∧ w5 = ((am_A h q4 ((a5 + a8)).toNatClampNeg)).toInt8.toInt32) ∨ (am_K h q3 = 24 ∧ w5 = ((am_A h q4 ((a5 + a8)).toNatClampNeg) &&& 1))) ∧
    am_Ev tt 202 419 [some (.ref a0), none, some (.int a2), some (.int a3), some (.int a4), some (.int a5), some (.int a6), some (.int a7), some (.int (a8 + (Int32.ofNat 1)))] [] (am_sA h q3 ((((Int32.ofNat 2400) * a6) + a8)).toNatClampNeg w5) (am_pV Q Qx)))))))))))))) :
  am_Ev tt 202 419 [some (.ref a0), none, some (.int a2), some (.int a3), some (.int a4), some (.int a5), some (.int a6), some (.int a7), some (.int a8)] [] h (am_pV Q Qx) := am_vc 30 [(7, [true, false, true, false, false, false, false, false, false]), (35, [true, false, true, false, false, false, false, false, false]), (62, [true, false, true, true, false, false, false, false, false]), (141, [true, false, true, true, true, true, true, false, false]), (181, [true, false, true, true, true, true, true, false, false]), (198, [true, false, true, true, true, true, true, true, false]), (237, [true, false, true, true, true, true, true, false, false]), (251, [true, false, true, true, true, true, true, false, false]), (279, [true, false, true, true, true, true, true, false, false]), (293, [true, false, true, true, true, true, true, false, false]), (321, [true, false, true, true, true, true, true, false, false]), (335, [true, false, true, true, true, true, true, false, false]), (345, [true, false, true, true, true, true, true, false, false]), (360, [true, false, true, true, true, false, true, true, false]), (380, [true, false, true, true, false, false, true, true, false]), (394, [true, false, true, true, true, true, true, true, false]), (419, [true, false, true, true, true, true, true, true, true]), (471, [true, false, true, true, true, true, true, true, false]), (483, [true, false, true, true, true, true, true, true, false]), (543, [true, false, true, true, true, true, true, false, false])] q
set_option maxRecDepth 4096 in
theorem vc_202_471 (tt : Nat → Nat) (a0 : Nat) (a2 : Int32) (a3 : Int32) (a4 : Int32) (a5 : Int32) (a6 : Int32) (a7 : Int32) (h : am_H) (Q : am_H → Prop) (Qx : String → am_H → Prop) (q :
  (am_K h a0 = 11 ∧ ∃ q1, am_R h 10 9 a0 = some q1 ∧
  ((am_K h q1 = 21 ∨ am_K h q1 = 31) ∧ vp_in a6 (am_N h q1) ∧
  am_Ev tt 202 483 [some (.ref a0), none, some (.int a2), some (.int a3), some (.int a4), some (.int (a5 + (am_A h q1 (a6).toNatClampNeg))), some (.int a6), some (.int a7), none] [] h (am_pV Q Qx)))) :
  am_Ev tt 202 471 [some (.ref a0), none, some (.int a2), some (.int a3), some (.int a4), some (.int a5), some (.int a6), some (.int a7), none] [] h (am_pV Q Qx) := am_vc 10 [(7, [true, false, true, false, false, false, false, false, false]), (35, [true, false, true, false, false, false, false, false, false]), (62, [true, false, true, true, false, false, false, false, false]), (141, [true, false, true, true, true, true, true, false, false]), (181, [true, false, true, true, true, true, true, false, false]), (198, [true, false, true, true, true, true, true, true, false]), (237, [true, false, true, true, true, true, true, false, false]), (251, [true, false, true, true, true, true, true, false, false]), (279, [true, false, true, true, true, true, true, false, false]), (293, [true, false, true, true, true, true, true, false, false]), (321, [true, false, true, true, true, true, true, false, false]), (335, [true, false, true, true, true, true, true, false, false]), (345, [true, false, true, true, true, true, true, false, false]), (360, [true, false, true, true, true, false, true, true, false]), (380, [true, false, true, true, false, false, true, true, false]), (394, [true, false, true, true, true, true, true, true, false]), (419, [true, false, true, true, true, true, true, true, true]), (471, [true, false, true, true, true, true, true, true, false]), (483, [true, false, true, true, true, true, true, true, false]), (543, [true, false, true, true, true, true, true, false, false])] q
set_option maxRecDepth 4096 in
theorem vc_202_483 (tt : Nat → Nat) (a0 : Nat) (a2 : Int32) (a3 : Int32) (a4 : Int32) (a5 : Int32) (a6 : Int32) (a7 : Int32) (h : am_H) (Q : am_H → Prop) (Qx : String → am_H → Prop) (q :
  (am_K h a0 = 11 ∧ ∃ q1, am_R h 10 13 a0 = some q1 ∧
  (am_K h a0 = 11 ∧ ∃ q2, am_R h 10 34 a0 = some q2 ∧
  ((am_K h q2 = 23 ∨ am_K h q2 = 24) ∧ vp_in a7 (am_N h q2) ∧
  (((am_A h q2 (a7).toNatClampNeg) = (Int32.ofNat 0) →
   (vp_in a6 (am_N h q1) ∧ ∃ w3, ((am_K h q1 = 23 ∧ w3 = ((Int32.ofNat 0)).toInt8.toInt32) ∨ (am_K h q1 = 24 ∧ w3 = ((Int32.ofNat 0) &&& 1))) ∧
   am_Ev tt 202 543 [some (.ref a0), none, some (.int a2), some (.int (a3 + (Int32.ofNat 1))), some (.int a4), some (.int a5), some (.int a6), none, none] [] (am_sA h q1 (a6).toNatClampNeg w3) (am_pV Q Qx))) ∧
  (¬ ((am_A h q2 (a7).toNatClampNeg) = (Int32.ofNat 0)) →
   (am_K h a0 = 11 ∧ ∃ q4, am_R h 10 10 a0 = some q4 ∧
   (am_K h a0 = 11 ∧ ∃ q5, am_R h 10 9 a0 = some q5 ∧
   ((am_K h q5 = 21 ∨ am_K h q5 = 31) ∧ vp_in a6 (am_N h q5) ∧
   (∃ (Q7 : Int32 → am_H → Prop) (X7 : String → am_H → Prop), am_Ct tt 131 [.ref q4, .int ((Int32.ofNat 2400) * a6), .int (am_A h q5 (a6).toNatClampNeg)] h (am_pI Q7 X7) ∧ (∀ x8 h6, Q7 x8 h6 →
    (am_K h6 a0 = 11 ∧ ∃ q9, am_R h6 10 40 a0 = some q9 ∧
    (am_K h6 q9 = 22 ∧ vp_in a3 (am_N h6 q9) ∧
    (((lg_cmp ((x8).toInt64 &&& (Int64.ofNat 4294967295)) (am_B h6 q9 (a3).toNatClampNeg)) = (Int32.ofNat 0) →
     (vp_in a6 (am_N h6 q1) ∧ ∃ w10, ((am_K h6 q1 = 23 ∧ w10 = ((Int32.ofNat 0)).toInt8.toInt32) ∨ (am_K h6 q1 = 24 ∧ w10 = ((Int32.ofNat 0) &&& 1))) ∧
     am_Ev tt 202 543 [some (.ref a0), none, some (.int a2), some (.int (a3 + (Int32.ofNat 1))), some (.int a4), some (.int a5), some (.int a6), none, none] [] (am_sA h6 q1 (a6).toNatClampNeg w10) (am_pV Q Qx))) ∧
    (¬ ((lg_cmp ((x8).toInt64 &&& (Int64.ofNat 4294967295)) (am_B h6 q9 (a3).toNatClampNeg)) = (Int32.ofNat 0)) →
     (vp_in a6 (am_N h6 q1) ∧ ∃ w11, ((am_K h6 q1 = 23 ∧ w11 = ((Int32.ofNat 1)).toInt8.toInt32) ∨ (am_K h6 q1 = 24 ∧ w11 = ((Int32.ofNat 1) &&& 1))) ∧
     am_Ev tt 202 543 [some (.ref a0), none, some (.int a2), some (.int (a3 + (Int32.ofNat 1))), some (.int a4), some (.int a5), some (.int a6), none, none] [] (am_sA h6 q1 (a6).toNatClampNeg w11) (am_pV Q Qx))))))) ∧ (∀ E12 h6, X7 E12 h6 → Qx E12 h6))))))))))) :
  am_Ev tt 202 483 [some (.ref a0), none, some (.int a2), some (.int a3), some (.int a4), some (.int a5), some (.int a6), some (.int a7), none] [] h (am_pV Q Qx) := am_vc 34 [(7, [true, false, true, false, false, false, false, false, false]), (35, [true, false, true, false, false, false, false, false, false]), (62, [true, false, true, true, false, false, false, false, false]), (141, [true, false, true, true, true, true, true, false, false]), (181, [true, false, true, true, true, true, true, false, false]), (198, [true, false, true, true, true, true, true, true, false]), (237, [true, false, true, true, true, true, true, false, false]), (251, [true, false, true, true, true, true, true, false, false]), (279, [true, false, true, true, true, true, true, false, false]), (293, [true, false, true, true, true, true, true, false, false]), (321, [true, false, true, true, true, true, true, false, false]), (335, [true, false, true, true, true, true, true, false, false]), (345, [true, false, true, true, true, true, true, false, false]), (360, [true, false, true, true, true, false, true, true, false]), (380, [true, false, true, true, false, false, true, true, false]), (394, [true, false, true, true, true, true, true, true, false]), (419, [true, false, true, true, true, true, true, true, true]), (471, [true, false, true, true, true, true, true, true, false]), (483, [true, false, true, true, true, true, true, true, false]), (543, [true, false, true, true, true, true, true, false, false])] q
set_option maxRecDepth 4096 in
theorem vc_202_543 (tt : Nat → Nat) (a0 : Nat) (a2 : Int32) (a3 : Int32) (a4 : Int32) (a5 : Int32) (a6 : Int32) (h : am_H) (Q : am_H → Prop) (Qx : String → am_H → Prop) (q :
  am_Ev tt 202 141 [some (.ref a0), none, some (.int a2), some (.int a3), some (.int a4), some (.int a5), some (.int (a6 + (Int32.ofNat 1))), none, none] [] h (am_pV Q Qx)) :
  am_Ev tt 202 543 [some (.ref a0), none, some (.int a2), some (.int a3), some (.int a4), some (.int a5), some (.int a6), none, none] [] h (am_pV Q Qx) := am_vc 5 [(7, [true, false, true, false, false, false, false, false, false]), (35, [true, false, true, false, false, false, false, false, false]), (62, [true, false, true, true, false, false, false, false, false]), (141, [true, false, true, true, true, true, true, false, false]), (181, [true, false, true, true, true, true, true, false, false]), (198, [true, false, true, true, true, true, true, true, false]), (237, [true, false, true, true, true, true, true, false, false]), (251, [true, false, true, true, true, true, true, false, false]), (279, [true, false, true, true, true, true, true, false, false]), (293, [true, false, true, true, true, true, true, false, false]), (321, [true, false, true, true, true, true, true, false, false]), (335, [true, false, true, true, true, true, true, false, false]), (345, [true, false, true, true, true, true, true, false, false]), (360, [true, false, true, true, true, false, true, true, false]), (380, [true, false, true, true, false, false, true, true, false]), (394, [true, false, true, true, true, true, true, true, false]), (419, [true, false, true, true, true, true, true, true, true]), (471, [true, false, true, true, true, true, true, true, false]), (483, [true, false, true, true, true, true, true, true, false]), (543, [true, false, true, true, true, true, true, false, false])] q

section MSB
variable {tt : Nat → Nat} {F : Fn} {n m : Nat} {ad : Nat → Nat} {h h' h'' k k' : am_H} {X Y X' Y' : Nat → Prop} {rd : RD}
abbrev Xcl (k : Nat) : Prop := k = 14 ∨ k = 17
abbrev Ysd (f : Nat) : Prop := f = 0 ∨ f = 1
theorem ct_rclear (sm : md_s h m ad) : am_Ct tt 147 [.ref m] h (am_pI (fun _ k => mg m ad Xcl Ysd h k ∧ ∀ b, b < 6 → am_A k (ad 14) b = Int32.ofNat 0 ∧ am_A k (ad 17) b = Int32.ofNat 0) no_x) := by
  have key : ∀ (v : Int32) (d b : Nat) (k : am_H), d + b = 6 → mg m ad Xcl Ysd h k → (∀ j, j < b → am_A k (ad 14) j = Int32.ofNat 0 ∧ am_A k (ad 17) j = Int32.ofNat 0) → am_Ev tt 147 17 [some (.ref m), some (.int v), some (.int (Int32.ofNat b))] [] k (am_pI (fun _ k => mg m ad Xcl Ysd h k ∧ ∀ b, b < 6 → am_A k (ad 14) b = Int32.ofNat 0 ∧ am_A k (ad 17) b = Int32.ofNat 0) no_x) := by
    intro v d
    induction d with
    | zero =>
      intro b k e g hb
      have : b = 6 := by omega
      subst this
      refine vc_147_17 tt _ _ _ _ _ _ ?_
      simp (disch := omega) only [qi_lt, qi_le, qi_eq, qi_nn, qi_in, qi_add, qi_l, ql_i, ql_lt, ql_le, ql_eq, ql_add, qc_lt, qc_eq, qc_ge, qc_gt, qc_le, true_and, and_true, and_self, true_or, or_true, false_or, or_false, false_and, and_false, not_true_eq_false, not_false_eq_true, Classical.not_not, true_implies, false_implies, implies_true, exists_eq_left, exists_eq_left', Option.some.injEq, reduceIte, Nat.reduceEqDiff, Nat.reduceLT, Nat.reduceLeDiff, Nat.reduceAdd, Nat.reduceSub, Nat.reduceMul, eq_self, ne_eq, and_imp, forall_const, reduceCtorEq, am_w, List.map_cons, List.map_nil, List.sum_cons, List.sum_nil, Value.category, Nat.zero_le, Nat.le_refl]
      exact ⟨g, hb⟩
    | succ d ih =>
      intro b k e g hb
      have sk := g.1.md sm
      have kk := sk.1
      have dj := ad_ne sk
      have b6 : b < 6 := by omega
      have q1 : ¬ 6 ≤ b := by omega
      obtain ⟨b1, b2, b3⟩ := md_r sk (k := 14) (by decide) rfl (by decide)
      obtain ⟨c1, c2, c3⟩ := md_r sk (k := 17) (by decide) rfl (by decide)
      refine vc_147_17 tt _ _ _ _ _ _ ?_
      simp (disch := omega) only [kk, b1, b2, b3, c1, c2, c3, b6, q1, z_1, am_hs, qi_lt, qi_le, qi_eq, qi_nn, qi_in, qi_add, qi_l, ql_i, ql_lt, ql_le, ql_eq, ql_add, qc_lt, qc_eq, qc_ge, qc_gt, qc_le, true_and, and_true, and_self, true_or, or_true, false_or, or_false, false_and, and_false, not_true_eq_false, not_false_eq_true, Classical.not_not, true_implies, false_implies, implies_true, exists_eq_left, exists_eq_left', Option.some.injEq, reduceIte, Nat.reduceEqDiff, Nat.reduceLT, Nat.reduceLeDiff, Nat.reduceAdd, Nat.reduceSub, Nat.reduceMul, eq_self, ne_eq, and_imp, forall_const, reduceCtorEq, am_w, List.map_cons, List.map_nil, List.sum_cons, List.sum_nil, Value.category, Nat.zero_le, Nat.le_refl]
      have s1 : mg m ad Xcl Ysd k (am_sA k (ad 14) b (Int32.ofNat 0)) := mg.sA sk (Or.inl rfl)
      have s2 : mg m ad Xcl Ysd (am_sA k (ad 14) b (Int32.ofNat 0)) (am_sA (am_sA k (ad 14) b (Int32.ofNat 0)) (ad 17) b (Int32.ofNat 0)) := mg.sA (s1.1.md sk) (Or.inr rfl)
      refine ih (b + 1) _ (by omega) (g.tr (s1.tr s2)) (fun j hj => ?_)
      by_cases c : j = b
      · subst c
        simp (disch := omega) only [am_hs, dj, true_and, and_true, and_self, true_or, or_true, false_or, or_false, false_and, and_false, not_true_eq_false, not_false_eq_true, Classical.not_not, true_implies, false_implies, implies_true, exists_eq_left, exists_eq_left', Option.some.injEq, reduceIte, Nat.reduceEqDiff, Nat.reduceLT, Nat.reduceLeDiff, Nat.reduceAdd, Nat.reduceSub, Nat.reduceMul, eq_self, ne_eq, and_imp, forall_const, reduceCtorEq, am_w, List.map_cons, List.map_nil, List.sum_cons, List.sum_nil, Value.category, Nat.zero_le, Nat.le_refl]
      · simp (disch := omega) only [am_hs, dj, c, true_and, and_true, and_self, true_or, or_true, false_or, or_false, false_and, and_false, not_true_eq_false, not_false_eq_true, Classical.not_not, true_implies, false_implies, implies_true, exists_eq_left, exists_eq_left', Option.some.injEq, reduceIte, Nat.reduceEqDiff, Nat.reduceLT, Nat.reduceLeDiff, Nat.reduceAdd, Nat.reduceSub, Nat.reduceMul, eq_self, ne_eq, and_imp, forall_const, reduceCtorEq, am_w, List.map_cons, List.map_nil, List.sum_cons, List.sum_nil, Value.category, Nat.zero_le, Nat.le_refl]
        exact hb j (by omega)
  refine vc_147_0 tt _ h _ _ ⟨sm.1, sm.1, sm.1, ?_⟩
  exact key _ 6 0 _ (by omega) ((mg.sI (Or.inl rfl)).tr (mg.sI (Or.inr rfl))) (fun j hj => absurd hj (Nat.not_lt_zero j))
abbrev Xbk (k : Nat) : Prop := 14 ≤ k ∧ k ≤ 17
/-- three coders are put down -/
theorem sd_62 {Q : am_H → Prop} {f : Nat} (hf : f < 6) {k0 : am_H}
    (nx : ∀ k, mg m ad (fun r => r = 15 ∨ r = 16) Yz k0 k → (∀ j, j < 3 → am_A k (ad 15) (3 * f + j) = am_A k0 (ad 35) (3 * f + j) ∧ am_A k (ad 16) (3 * f + j) = am_A k0 (ad 36) (3 * f + j)) → (∀ j, ¬ (3 * f ≤ j ∧ j < 3 * f + 3) → am_A k (ad 15) j = am_A k0 (ad 15) j ∧ am_A k (ad 16) j = am_A k0 (ad 16) j) → am_Ev tt 202 7 [some (.ref m), none, some (.int (Int32.ofNat (f + 1))), none, none, none, none, none, none] [] k (am_pV Q no_x)) (sm : md_s k0 m ad) :
    ∀ (d i : Nat) (k : am_H), d + i = 3 → mg m ad (fun r => r = 15 ∨ r = 16) Yz k0 k → (∀ j, j < i → am_A k (ad 15) (3 * f + j) = am_A k0 (ad 35) (3 * f + j) ∧ am_A k (ad 16) (3 * f + j) = am_A k0 (ad 36) (3 * f + j)) → (∀ j, ¬ (3 * f ≤ j ∧ j < 3 * f + 3) → am_A k (ad 15) j = am_A k0 (ad 15) j ∧ am_A k (ad 16) j = am_A k0 (ad 16) j) → am_Ev tt 202 62 [some (.ref m), none, some (.int (Int32.ofNat f)), some (.int (Int32.ofNat i)), none, none, none, none, none] [] k (am_pV Q no_x) := by
  intro d
  induction d with
  | zero =>
    intro i k ei g h1 h2
    have : i = 3 := by omega
    subst this
    refine vc_202_62 tt _ _ _ _ _ _ ?_
    simp (disch := omega) only [qi_lt, qi_le, qi_eq, qi_nn, qi_in, qi_add, qi_l, ql_i, ql_lt, ql_le, ql_eq, ql_add, qc_lt, qc_eq, qc_ge, qc_gt, qc_le, true_and, and_true, and_self, true_or, or_true, false_or, or_false, false_and, and_false, not_true_eq_false, not_false_eq_true, Classical.not_not, true_implies, false_implies, implies_true, exists_eq_left, exists_eq_left', Option.some.injEq, reduceIte, Nat.reduceEqDiff, Nat.reduceLT, Nat.reduceLeDiff, Nat.reduceAdd, Nat.reduceSub, Nat.reduceMul, eq_self, ne_eq, and_imp, forall_const, reduceCtorEq, am_w, List.map_cons, List.map_nil, List.sum_cons, List.sum_nil, Value.category, Nat.zero_le, Nat.le_refl]
    exact nx k g h1 h2
  | succ d ih =>
    intro i k ei g h1 h2
    have sk := g.1.md sm
    have kk := sk.1
    have dj := ad_ne sk
    have i18 : 3 * f + i < 18 := by omega
    have q1 : ¬ 3 ≤ i := by omega
    obtain ⟨a1, a2, a3⟩ := md_r sk (k := 15) (by decide) rfl (by decide)
    obtain ⟨b1, b2, b3⟩ := md_r sk (k := 16) (by decide) rfl (by decide)
    obtain ⟨c1, c2, c3⟩ := md_r sk (k := 35) (by decide) rfl (by decide)
    obtain ⟨d1, d2, d3⟩ := md_r sk (k := 36) (by decide) rfl (by decide)
    have e35 : am_A k (ad 35) (3 * f + i) = am_A k0 (ad 35) (3 * f + i) := by rw [(g.2.1 35 (by omega)).1]
    have e36 : am_A k (ad 36) (3 * f + i) = am_A k0 (ad 36) (3 * f + i) := by rw [(g.2.1 36 (by omega)).1]
    refine vc_202_62 tt _ _ _ _ _ _ ?_
    simp (disch := omega) only [kk, a1, a2, a3, b1, b2, b3, c1, c2, c3, d1, d2, d3, i18, q1, e35, e36, dj, am_hs, qi_mul, qi_lt, qi_le, qi_eq, qi_nn, qi_in, qi_add, qi_l, ql_i, ql_lt, ql_le, ql_eq, ql_add, qc_lt, qc_eq, qc_ge, qc_gt, qc_le, true_and, and_true, and_self, true_or, or_true, false_or, or_false, false_and, and_false, not_true_eq_false, not_false_eq_true, Classical.not_not, true_implies, false_implies, implies_true, exists_eq_left, exists_eq_left', Option.some.injEq, reduceIte, Nat.reduceEqDiff, Nat.reduceLT, Nat.reduceLeDiff, Nat.reduceAdd, Nat.reduceSub, Nat.reduceMul, eq_self, ne_eq, and_imp, forall_const, reduceCtorEq, am_w, List.map_cons, List.map_nil, List.sum_cons, List.sum_nil, Value.category, Nat.zero_le, Nat.le_refl]
    have s1 : mg m ad (fun r => r = 15 ∨ r = 16) Yz k (am_sA k (ad 15) (3 * f + i) (am_A k0 (ad 35) (3 * f + i))) := mg.sA sk (Or.inl rfl)
    have s2 : mg m ad (fun r => r = 15 ∨ r = 16) Yz (am_sA k (ad 15) (3 * f + i) (am_A k0 (ad 35) (3 * f + i))) (am_sA (am_sA k (ad 15) (3 * f + i) (am_A k0 (ad 35) (3 * f + i))) (ad 16) (3 * f + i) (am_A k0 (ad 36) (3 * f + i))) := mg.sA (s1.1.md sk) (Or.inr rfl)
    refine ih (i + 1) _ (by omega) (g.tr (s1.tr s2)) (fun j hj => ?_) (fun j hj => ?_)
    · by_cases c : j = i
      · subst c
        simp (disch := omega) only [am_hs, dj, true_and, and_true, and_self, true_or, or_true, false_or, or_false, false_and, and_false, not_true_eq_false, not_false_eq_true, Classical.not_not, true_implies, false_implies, implies_true, exists_eq_left, exists_eq_left', Option.some.injEq, reduceIte, Nat.reduceEqDiff, Nat.reduceLT, Nat.reduceLeDiff, Nat.reduceAdd, Nat.reduceSub, Nat.reduceMul, eq_self, ne_eq, and_imp, forall_const, reduceCtorEq, am_w, List.map_cons, List.map_nil, List.sum_cons, List.sum_nil, Value.category, Nat.zero_le, Nat.le_refl]
      · have q : ¬ 3 * f + j = 3 * f + i := by omega
        simp (disch := omega) only [am_hs, dj, q, true_and, and_true, and_self, true_or, or_true, false_or, or_false, false_and, and_false, not_true_eq_false, not_false_eq_true, Classical.not_not, true_implies, false_implies, implies_true, exists_eq_left, exists_eq_left', Option.some.injEq, reduceIte, Nat.reduceEqDiff, Nat.reduceLT, Nat.reduceLeDiff, Nat.reduceAdd, Nat.reduceSub, Nat.reduceMul, eq_self, ne_eq, and_imp, forall_const, reduceCtorEq, am_w, List.map_cons, List.map_nil, List.sum_cons, List.sum_nil, Value.category, Nat.zero_le, Nat.le_refl]
        exact h1 j (by omega)
    · have q : ¬ j = 3 * f + i := by omega
      simp (disch := omega) only [am_hs, dj, q, true_and, and_true, and_self, true_or, or_true, false_or, or_false, false_and, and_false, not_true_eq_false, not_false_eq_true, Classical.not_not, true_implies, false_implies, implies_true, exists_eq_left, exists_eq_left', Option.some.injEq, reduceIte, Nat.reduceEqDiff, Nat.reduceLT, Nat.reduceLeDiff, Nat.reduceAdd, Nat.reduceSub, Nat.reduceMul, eq_self, ne_eq, and_imp, forall_const, reduceCtorEq, am_w, List.map_cons, List.map_nil, List.sum_cons, List.sum_nil, Value.category, Nat.zero_le, Nat.le_refl]
      exact h2 j hj
theorem sd_7 {Q : am_H → Prop} (sm : md_s h m ad) (hst : stR m ad rd.1 h) (hB : rd.1.1 ≤ 6) (hW : ∀ b, b < rd.1.1 → (rd.1.2.2.1 b).1 ≤ 3) (e41 : am_I h 10 41 m = Int32.ofNat rd.2.1.1)
    (nx : ∀ k, mg m ad Xbk Ysd h k → am_I k 10 1 m = Int32.ofNat rd.2.1.1 → (∀ b, b < 6 → mb_v k ad b (rdB rd b)) → am_Ev tt 202 141 [some (.ref m), none, some (.int (Int32.ofNat 32)), some (.int (Int32.ofNat 0)), some (.int (-1 : Int32)), some (.int (Int32.ofNat 0)), some (.int (Int32.ofNat 0)), none, none] [] k (am_pV Q no_x)) :
    ∀ (d f : Nat) (k : am_H), d + f = rd.1.1 → mg m ad Xbk Ysd h k → (∀ b, b < f → mb_v k ad b (rdB rd b)) → (∀ b, f ≤ b → b < 6 → am_A k (ad 14) b = Int32.ofNat 0 ∧ am_A k (ad 17) b = Int32.ofNat 0) → am_Ev tt 202 7 [some (.ref m), none, some (.int (Int32.ofNat f)), none, none, none, none, none, none] [] k (am_pV Q no_x) := by
  intro d
  induction d with
  | zero =>
    intro f k ef g h1 h2
    have sk := g.1.md sm
    have kk := sk.1
    have e30 : am_I k 10 30 m = Int32.ofNat rd.1.1 := by rw [(g.2.2 30 (by omega)).1]; exact hst.1
    have e41' : am_I k 10 41 m = Int32.ofNat rd.2.1.1 := by rw [(g.2.2 41 (by omega)).1]; exact e41
    have q1 : rd.1.1 ≤ f := by omega
    refine vc_202_7 tt _ _ _ _ _ ?_
    simp (disch := omega) only [kk, e30, e41', q1, qi_lt, qi_le, qi_eq, qi_nn, qi_in, qi_add, qi_l, ql_i, ql_lt, ql_le, ql_eq, ql_add, qc_lt, qc_eq, qc_ge, qc_gt, qc_le, true_and, and_true, and_self, true_or, or_true, false_or, or_false, false_and, and_false, not_true_eq_false, not_false_eq_true, Classical.not_not, true_implies, false_implies, implies_true, exists_eq_left, exists_eq_left', Option.some.injEq, reduceIte, Nat.reduceEqDiff, Nat.reduceLT, Nat.reduceLeDiff, Nat.reduceAdd, Nat.reduceSub, Nat.reduceMul, eq_self, ne_eq, and_imp, forall_const, reduceCtorEq, am_w, List.map_cons, List.map_nil, List.sum_cons, List.sum_nil, Value.category, Nat.zero_le, Nat.le_refl]
    have s1 : mg m ad Xbk Ysd k (am_sI k 10 1 m (Int32.ofNat rd.2.1.1)) := mg.sI (Or.inr rfl)
    refine nx _ (g.tr s1) (by simp only [am_hs, true_and, and_true, and_self, true_or, or_true, false_or, or_false, false_and, and_false, not_true_eq_false, not_false_eq_true, Classical.not_not, true_implies, false_implies, implies_true, exists_eq_left, exists_eq_left', Option.some.injEq, reduceIte, Nat.reduceEqDiff, Nat.reduceLT, Nat.reduceLeDiff, Nat.reduceAdd, Nat.reduceSub, Nat.reduceMul, eq_self, ne_eq, and_imp, forall_const, reduceCtorEq, am_w, List.map_cons, List.map_nil, List.sum_cons, List.sum_nil, Value.category, Nat.zero_le, Nat.le_refl]) (fun b hb => ?_)
    by_cases c : b < rd.1.1
    · obtain ⟨z1, z2, z3⟩ := h1 b (by omega)
      exact ⟨z1, z2, z3⟩
    · have e : rdB rd b = (true, 0, fun _ => 0, fun _ => 0) := by rw [rdB, if_neg c]
      rw [e]
      obtain ⟨z1, z2⟩ := h2 b (by omega) hb
      exact ⟨z2, fun _ => ⟨z1, fun j hj => absurd hj (Nat.not_lt_zero j)⟩, fun _ => z1⟩
  | succ d ih =>
    intro f k ef g h1 h2
    have sk := g.1.md sm
    have kk := sk.1
    have dj := ad_ne sk
    have e30 : am_I k 10 30 m = Int32.ofNat rd.1.1 := by rw [(g.2.2 30 (by omega)).1]; exact hst.1
    have q1 : ¬ rd.1.1 ≤ f := by omega
    have f6 : f < 6 := by omega
    obtain ⟨r1, r2, r3, r4, r5⟩ := hst.2.2.1 f (by omega)
    have nc3 := hW f (by omega)
    generalize eo : rd.1.2.2.1 f = o at *
    have e34 : am_A k (ad 34) f = b01 o.2.1 := by rw [(g.2.1 34 (by omega)).1]; exact r2
    have e37 : am_A k (ad 37) f = Int32.ofNat o.1 := by rw [(g.2.1 37 (by omega)).1]; exact r3
    obtain ⟨a1, a2, a3⟩ := md_r sk (k := 17) (by decide) rfl (by decide)
    obtain ⟨b1, b2, b3⟩ := md_r sk (k := 34) (by decide) rfl (by decide)
    obtain ⟨c1, c2, c3⟩ := md_r sk (k := 14) (by decide) rfl (by decide)
    obtain ⟨d1, d2, d3⟩ := md_r sk (k := 37) (by decide) rfl (by decide)
    have eB : rdB rd f = (o.2.1, o.1, o.2.2.1, o.2.2.2.1) := by rw [rdB, if_pos (by omega), eo]
    -- with both put down
    have on : ∀ (v : Int32) (w : Bool), w = (!o.2.1) → v = (if o.2.1 = true then Int32.ofNat o.1 else Int32.ofNat 0) → am_Ev tt 202 62 [some (.ref m), none, some (.int (Int32.ofNat f)), some (.int (Int32.ofNat 0)), none, none, none, none, none] [] (am_sA (am_sA k (ad 17) f (b01 w)) (ad 14) f v) (am_pV Q no_x) := by
      intro v w hw hv
      have s1 : mg m ad Xbk Ysd k (am_sA k (ad 17) f (b01 w)) := mg.sA sk (by omega)
      have s2 : mg m ad Xbk Ysd (am_sA k (ad 17) f (b01 w)) (am_sA (am_sA k (ad 17) f (b01 w)) (ad 14) f v) := mg.sA (s1.1.md sk) (by omega)
      have s12 := s1.tr s2
      refine sd_62 (k0 := am_sA (am_sA k (ad 17) f (b01 w)) (ad 14) f v) f6 (fun k3 g3 n1 n2 => ?_) (s12.1.md sk) 3 0 _ (by omega) mg.re (fun j hj => absurd hj (Nat.not_lt_zero j)) (fun j hj => ⟨rfl, rfl⟩)
      have g3' : mg m ad Xbk Ysd h k3 := g.tr (s12.tr (g3.mo (fun _ z => by omega) (fun _ z => z.elim)))
      refine ih (f + 1) k3 (by omega) g3' (fun b hb => ?_) (fun b hb1 hb2 => ?_)
      · by_cases c : b = f
        · subst c
          rw [eB]
          refine ⟨?_, fun kn => ⟨?_, fun j hj => ?_⟩, fun kn => ?_⟩
          · show am_A k3 (ad 17) b = b01 (!o.2.1)
            rw [(g3.2.1 17 (by omega)).1]
            simp (disch := omega) only [am_hs, dj, true_and, and_true, and_self, true_or, or_true, false_or, or_false, false_and, and_false, not_true_eq_false, not_false_eq_true, Classical.not_not, true_implies, false_implies, implies_true, exists_eq_left, exists_eq_left', Option.some.injEq, reduceIte, Nat.reduceEqDiff, Nat.reduceLT, Nat.reduceLeDiff, Nat.reduceAdd, Nat.reduceSub, Nat.reduceMul, eq_self, ne_eq, and_imp, forall_const, reduceCtorEq, am_w, List.map_cons, List.map_nil, List.sum_cons, List.sum_nil, Value.category, Nat.zero_le, Nat.le_refl]
            rw [hw]
          · have kn : o.2.1 = true := kn
            show am_A k3 (ad 14) b = Int32.ofNat o.1
            rw [(g3.2.1 14 (by omega)).1]
            simp (disch := omega) only [am_hs, dj, true_and, and_true, and_self, true_or, or_true, false_or, or_false, false_and, and_false, not_true_eq_false, not_false_eq_true, Classical.not_not, true_implies, false_implies, implies_true, exists_eq_left, exists_eq_left', Option.some.injEq, reduceIte, Nat.reduceEqDiff, Nat.reduceLT, Nat.reduceLeDiff, Nat.reduceAdd, Nat.reduceSub, Nat.reduceMul, eq_self, ne_eq, and_imp, forall_const, reduceCtorEq, am_w, List.map_cons, List.map_nil, List.sum_cons, List.sum_nil, Value.category, Nat.zero_le, Nat.le_refl]
            rw [hv, if_pos kn]
          · have hj : j < o.1 := hj
            obtain ⟨w1, w2⟩ := n1 j (by omega)
            obtain ⟨u1, u2⟩ := r5 j hj
            show am_A k3 (ad 15) (3 * b + j) = o.2.2.1 j ∧ am_A k3 (ad 16) (3 * b + j) = o.2.2.2.1 j
            rw [w1, w2, (s12.2.1 35 (by omega)).1, (s12.2.1 36 (by omega)).1, (g.2.1 35 (by omega)).1, (g.2.1 36 (by omega)).1]
            exact ⟨u1, u2⟩
          · have kn : o.2.1 = false := kn
            show am_A k3 (ad 14) b = Int32.ofNat 0
            rw [(g3.2.1 14 (by omega)).1]
            simp (disch := omega) only [am_hs, dj, true_and, and_true, and_self, true_or, or_true, false_or, or_false, false_and, and_false, not_true_eq_false, not_false_eq_true, Classical.not_not, true_implies, false_implies, implies_true, exists_eq_left, exists_eq_left', Option.some.injEq, reduceIte, Nat.reduceEqDiff, Nat.reduceLT, Nat.reduceLeDiff, Nat.reduceAdd, Nat.reduceSub, Nat.reduceMul, eq_self, ne_eq, and_imp, forall_const, reduceCtorEq, am_w, List.map_cons, List.map_nil, List.sum_cons, List.sum_nil, Value.category, Nat.zero_le, Nat.le_refl]
            rw [hv, kn]
            rfl
        · refine (h1 b (by omega)).same ?_ ?_ ?_ (fun j hj => ?_) (fun j hj => ?_)
          · have := hW b (by omega)
            rw [rdB, if_pos (by omega)]; exact this
          · rw [(g3.2.1 17 (by omega)).1]
            simp (disch := omega) only [am_hs, dj, c, true_and, and_true, and_self, true_or, or_true, false_or, or_false, false_and, and_false, not_true_eq_false, not_false_eq_true, Classical.not_not, true_implies, false_implies, implies_true, exists_eq_left, exists_eq_left', Option.some.injEq, reduceIte, Nat.reduceEqDiff, Nat.reduceLT, Nat.reduceLeDiff, Nat.reduceAdd, Nat.reduceSub, Nat.reduceMul, eq_self, ne_eq, and_imp, forall_const, reduceCtorEq, am_w, List.map_cons, List.map_nil, List.sum_cons, List.sum_nil, Value.category, Nat.zero_le, Nat.le_refl]
          · rw [(g3.2.1 14 (by omega)).1]
            simp (disch := omega) only [am_hs, dj, c, true_and, and_true, and_self, true_or, or_true, false_or, or_false, false_and, and_false, not_true_eq_false, not_false_eq_true, Classical.not_not, true_implies, false_implies, implies_true, exists_eq_left, exists_eq_left', Option.some.injEq, reduceIte, Nat.reduceEqDiff, Nat.reduceLT, Nat.reduceLeDiff, Nat.reduceAdd, Nat.reduceSub, Nat.reduceMul, eq_self, ne_eq, and_imp, forall_const, reduceCtorEq, am_w, List.map_cons, List.map_nil, List.sum_cons, List.sum_nil, Value.category, Nat.zero_le, Nat.le_refl]
          · rw [(n2 _ (by omega)).1]
            simp (disch := omega) only [am_hs, dj, true_and, and_true, and_self, true_or, or_true, false_or, or_false, false_and, and_false, not_true_eq_false, not_false_eq_true, Classical.not_not, true_implies, false_implies, implies_true, exists_eq_left, exists_eq_left', Option.some.injEq, reduceIte, Nat.reduceEqDiff, Nat.reduceLT, Nat.reduceLeDiff, Nat.reduceAdd, Nat.reduceSub, Nat.reduceMul, eq_self, ne_eq, and_imp, forall_const, reduceCtorEq, am_w, List.map_cons, List.map_nil, List.sum_cons, List.sum_nil, Value.category, Nat.zero_le, Nat.le_refl]
          · rw [(n2 _ (by omega)).2]
            simp (disch := omega) only [am_hs, dj, true_and, and_true, and_self, true_or, or_true, false_or, or_false, false_and, and_false, not_true_eq_false, not_false_eq_true, Classical.not_not, true_implies, false_implies, implies_true, exists_eq_left, exists_eq_left', Option.some.injEq, reduceIte, Nat.reduceEqDiff, Nat.reduceLT, Nat.reduceLeDiff, Nat.reduceAdd, Nat.reduceSub, Nat.reduceMul, eq_self, ne_eq, and_imp, forall_const, reduceCtorEq, am_w, List.map_cons, List.map_nil, List.sum_cons, List.sum_nil, Value.category, Nat.zero_le, Nat.le_refl]
      · have c : ¬ b = f := by omega
        rw [(g3.2.1 14 (by omega)).1, (g3.2.1 17 (by omega)).1]
        simp (disch := omega) only [am_hs, dj, c, true_and, and_true, and_self, true_or, or_true, false_or, or_false, false_and, and_false, not_true_eq_false, not_false_eq_true, Classical.not_not, true_implies, false_implies, implies_true, exists_eq_left, exists_eq_left', Option.some.injEq, reduceIte, Nat.reduceEqDiff, Nat.reduceLT, Nat.reduceLeDiff, Nat.reduceAdd, Nat.reduceSub, Nat.reduceMul, eq_self, ne_eq, and_imp, forall_const, reduceCtorEq, am_w, List.map_cons, List.map_nil, List.sum_cons, List.sum_nil, Value.category, Nat.zero_le, Nat.le_refl]
        exact h2 b (by omega) hb2
    refine vc_202_7 tt _ _ _ _ _ ?_
    simp (disch := omega) only [kk, e30, q1, a1, a2, a3, b1, b2, b3, f6, e34, z_1, o_1, qi_lt, qi_le, qi_eq, qi_nn, qi_in, qi_add, qi_l, ql_i, ql_lt, ql_le, ql_eq, ql_add, qc_lt, qc_eq, qc_ge, qc_gt, qc_le, true_and, and_true, and_self, true_or, or_true, false_or, or_false, false_and, and_false, not_true_eq_false, not_false_eq_true, Classical.not_not, true_implies, false_implies, implies_true, exists_eq_left, exists_eq_left', Option.some.injEq, reduceIte, Nat.reduceEqDiff, Nat.reduceLT, Nat.reduceLeDiff, Nat.reduceAdd, Nat.reduceSub, Nat.reduceMul, eq_self, ne_eq, and_imp, forall_const, reduceCtorEq, am_w, List.map_cons, List.map_nil, List.sum_cons, List.sum_nil, Value.category, Nat.zero_le, Nat.le_refl]
    cases hkn : o.2.1 with
    | true =>
      refine ⟨fun _ => ?_, fun z => absurd z (show ¬ b01 true = Int32.ofNat 0 by decide)⟩
      refine vc_202_35 tt _ _ _ _ _ ?_
      rw [hkn] at e34
      have ne : ¬ b01 true = Int32.ofNat 0 := by decide
      simp (disch := omega) only [kk, b1, b2, b3, c1, c2, c3, d1, d2, d3, f6, e34, e37, dj, ne, am_hs, qi_lt, qi_le, qi_eq, qi_nn, qi_in, qi_add, qi_l, ql_i, ql_lt, ql_le, ql_eq, ql_add, qc_lt, qc_eq, qc_ge, qc_gt, qc_le, true_and, and_true, and_self, true_or, or_true, false_or, or_false, false_and, and_false, not_true_eq_false, not_false_eq_true, Classical.not_not, true_implies, false_implies, implies_true, exists_eq_left, exists_eq_left', Option.some.injEq, reduceIte, Nat.reduceEqDiff, Nat.reduceLT, Nat.reduceLeDiff, Nat.reduceAdd, Nat.reduceSub, Nat.reduceMul, eq_self, ne_eq, and_imp, forall_const, reduceCtorEq, am_w, List.map_cons, List.map_nil, List.sum_cons, List.sum_nil, Value.category, Nat.zero_le, Nat.le_refl]
      exact on _ false (by rw [hkn]; rfl) (by rw [if_pos hkn])
    | false =>
      refine ⟨fun z => absurd rfl z, fun _ => ?_⟩
      refine vc_202_35 tt _ _ _ _ _ ?_
      rw [hkn] at e34
      have e0 : b01 false = Int32.ofNat 0 := rfl
      rw [e0] at e34
      simp (disch := omega) only [kk, b1, b2, b3, c1, c2, c3, d1, d2, d3, f6, e34, e37, dj, am_hs, qi_lt, qi_le, qi_eq, qi_nn, qi_in, qi_add, qi_l, ql_i, ql_lt, ql_le, ql_eq, ql_add, qc_lt, qc_eq, qc_ge, qc_gt, qc_le, true_and, and_true, and_self, true_or, or_true, false_or, or_false, false_and, and_false, not_true_eq_false, not_false_eq_true, Classical.not_not, true_implies, false_implies, implies_true, exists_eq_left, exists_eq_left', Option.some.injEq, reduceIte, Nat.reduceEqDiff, Nat.reduceLT, Nat.reduceLeDiff, Nat.reduceAdd, Nat.reduceSub, Nat.reduceMul, eq_self, ne_eq, and_imp, forall_const, reduceCtorEq, am_w, List.map_cons, List.map_nil, List.sum_cons, List.sum_nil, Value.category, Nat.zero_le, Nat.le_refl]
      exact on _ true (by rw [hkn]; rfl) (by rw [hkn]; rfl)
end MSB
