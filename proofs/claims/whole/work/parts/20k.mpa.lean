/-! deps: 20j -/
/-! ===== the reference reads: files ===== -/
/-! 190 yX10_parts -/
theorem vc_190_0 (tt : Nat → Nat) (a0 : Nat) (h : am_H) (Q : am_H → Prop) (Qx : String → am_H → Prop) (q :
  (am_K h a0 = 11 ∧
  (am_K h a0 = 11 ∧
  (am_K h a0 = 11 ∧ ∃ (Q2 : Int32 → am_H → Prop) (X2 : String → am_H → Prop), am_Ct tt 178 [.ref a0] (am_sI h 10 29 a0 (am_I h 10 30 a0)) (am_pI Q2 X2) ∧ (∀ x3 h1, Q2 x3 h1 →
   ((¬ x3 = (Int32.ofNat 13) →
    (am_K h1 a0 = 11 ∧
    am_Ev tt 190 30 [some (.ref a0), some (.int (Int32.ofNat 0)), some (.int (am_I h1 10 27 a0)), some (.int (Int32.ofNat 0)), none, none, none, none] [] h1 (am_pV Q Qx))) ∧
   (¬ (¬ x3 = (Int32.ofNat 13)) →
    (am_K h1 a0 = 11 ∧
    am_Ev tt 190 30 [some (.ref a0), some (.int (Int32.ofNat 1)), some (.int (am_I h1 10 27 a0)), some (.int (Int32.ofNat 0)), none, none, none, none] [] h1 (am_pV Q Qx))))) ∧ (∀ E4 h1, X2 E4 h1 → Qx E4 h1))))) :
  am_Ev tt 190 0 [some (.ref a0), none, none, none, none, none, none, none] [] h (am_pV Q Qx) := am_vc 19 [(30, [true, true, true, true, false, false, false, false]), (68, [true, false, true, true, false, false, false, false]), (123, [true, false, true, false, false, false, false, false]), (147, [true, false, false, false, false, false, false, false]), (153, [true, false, false, false, false, false, false, false]), (158, [true, false, false, true, true, false, false, false]), (186, [true, false, false, true, true, true, true, false]), (205, [true, false, false, true, true, true, true, false]), (274, [true, false, false, true, true, false, false, false])] q
theorem vc_190_30 (tt : Nat → Nat) (a0 : Nat) (a1 : Int32) (a2 : Int32) (a3 : Int32) (h : am_H) (Q : am_H → Prop) (Qx : String → am_H → Prop) (q :
  (am_K h a0 = 11 ∧
  (((am_I h 10 30 a0) ≤ a3 →
   ((a1 = (Int32.ofNat 0) →
    am_Ev tt 190 153 [some (.ref a0), none, none, none, none, none, none, none] [] h (am_pV Q Qx)) ∧
   (¬ (a1 = (Int32.ofNat 0)) →
    (am_K h a0 = 11 ∧ ∃ (Q2 : am_H → Prop) (X2 : String → am_H → Prop), am_Ct tt 180 [.ref a0, .int (Int32.ofNat 13)] h (am_pV Q2 X2) ∧ (∀ h1, Q2 h1 →
     (am_K h1 a0 = 11 ∧
     am_Ev tt 190 68 [some (.ref a0), none, some (.int a2), some (.int (Int32.ofNat 0)), none, none, none, none] [] (am_sI h1 10 29 a0 (Int32.ofNat 0)) (am_pV Q Qx))) ∧ (∀ E3 h1, X2 E3 h1 → Qx E3 h1))))) ∧
  (¬ ((am_I h 10 30 a0) ≤ a3) →
   (am_K h a0 = 11 ∧ ∃ q4, am_R h 10 60 a0 = some q4 ∧
   (am_K h q4 = 21 ∧ vp_in a3 (am_N h q4) ∧
   am_Ev tt 190 30 [some (.ref a0), some (.int a1), some (.int a2), some (.int (a3 + (Int32.ofNat 1))), none, none, none, none] [] (am_sA h q4 (a3).toNatClampNeg (Int32.ofNat 1)) (am_pV Q Qx))))))) :
  am_Ev tt 190 30 [some (.ref a0), some (.int a1), some (.int a2), some (.int a3), none, none, none, none] [] h (am_pV Q Qx) := am_vc 17 [(30, [true, true, true, true, false, false, false, false]), (68, [true, false, true, true, false, false, false, false]), (123, [true, false, true, false, false, false, false, false]), (147, [true, false, false, false, false, false, false, false]), (153, [true, false, false, false, false, false, false, false]), (158, [true, false, false, true, true, false, false, false]), (186, [true, false, false, true, true, true, true, false]), (205, [true, false, false, true, true, true, true, false]), (274, [true, false, false, true, true, false, false, false])] q
theorem vc_190_68 (tt : Nat → Nat) (a0 : Nat) (a2 : Int32) (a3 : Int32) (h : am_H) (Q : am_H → Prop) (Qx : String → am_H → Prop) (q :
  (am_K h a0 = 11 ∧
  (((am_I h 10 30 a0) ≤ a3 →
   am_Ev tt 190 123 [some (.ref a0), none, some (.int a2), none, none, none, none, none] [] h (am_pV Q Qx)) ∧
  (¬ ((am_I h 10 30 a0) ≤ a3) →
   (am_K h a0 = 11 ∧ ∃ (Q2 : Int32 → am_H → Prop) (X2 : String → am_H → Prop), am_Ct tt 176 [.ref a0] h (am_pI Q2 X2) ∧ (∀ x3 h1, Q2 x3 h1 →
    ((x3 = (Int32.ofNat 0) →
     am_Ev tt 190 123 [some (.ref a0), none, some (.int a2), none, none, none, none, none] [] h1 (am_pV Q Qx)) ∧
    (¬ (x3 = (Int32.ofNat 0)) →
     (am_K h1 a0 = 11 ∧ ∃ q4, am_R h1 10 60 a0 = some q4 ∧
     (am_K h1 a0 = 11 ∧
     (am_K h1 a0 = 11 ∧ ∃ (Q6 : Int32 → am_H → Prop) (X6 : String → am_H → Prop), am_Ct tt 182 [.ref a0, .long (Int64.ofNat 1), .long (((Int32.ofNat 24) - (am_I h1 10 29 a0))).toInt64] h1 (am_pI Q6 X6) ∧ (∀ x7 h5, Q6 x7 h5 →
      (am_K h5 q4 = 21 ∧ vp_in a3 (am_N h5 q4) ∧
      (am_K h5 a0 = 11 ∧
      (am_K h5 a0 = 11 ∧ ∃ q8, am_R h5 10 60 a0 = some q8 ∧
      ((am_K h5 q8 = 21 ∨ am_K h5 q8 = 31) ∧ vp_in a3 (am_N h5 q8) ∧
      (am_K h5 a0 = 11 ∧
      am_Ev tt 190 68 [some (.ref a0), none, some (.int a2), some (.int (a3 + (Int32.ofNat 1))), none, none, none, none] [] (am_sI (am_sA h5 q4 (a3).toNatClampNeg x7) 10 29 a0 ((am_I h5 10 29 a0) + (am_A (am_sA h5 q4 (a3).toNatClampNeg x7) q8 (a3).toNatClampNeg))) (am_pV Q Qx))))))) ∧ (∀ E9 h5, X6 E9 h5 → Qx E9 h5))))))) ∧ (∀ E10 h1, X2 E10 h1 → Qx E10 h1)))))) :
  am_Ev tt 190 68 [some (.ref a0), none, some (.int a2), some (.int a3), none, none, none, none] [] h (am_pV Q Qx) := am_vc 33 [(30, [true, true, true, true, false, false, false, false]), (68, [true, false, true, true, false, false, false, false]), (123, [true, false, true, false, false, false, false, false]), (147, [true, false, false, false, false, false, false, false]), (153, [true, false, false, false, false, false, false, false]), (158, [true, false, false, true, true, false, false, false]), (186, [true, false, false, true, true, true, true, false]), (205, [true, false, false, true, true, true, true, false]), (274, [true, false, false, true, true, false, false, false])] q
theorem vc_190_123 (tt : Nat → Nat) (a0 : Nat) (a2 : Int32) (h : am_H) (Q : am_H → Prop) (Qx : String → am_H → Prop) (q :
  (am_K h a0 = 11 ∧ ∃ (Q2 : Int32 → am_H → Prop) (X2 : String → am_H → Prop), am_Ct tt 176 [.ref a0] h (am_pI Q2 X2) ∧ (∀ x3 h1, Q2 x3 h1 →
   ((x3 = (Int32.ofNat 0) →
    am_Ev tt 190 147 [some (.ref a0), none, none, none, none, none, none, none] [] h1 (am_pV Q Qx)) ∧
   (¬ (x3 = (Int32.ofNat 0)) →
    (am_K h1 a0 = 11 ∧
    (am_K h1 a0 = 11 ∧
    ((¬ (am_I h1 10 29 a0) = (am_I h1 10 30 a0) →
     am_Ev tt 190 147 [some (.ref a0), none, none, none, none, none, none, none] [] h1 (am_pV Q Qx)) ∧
    (¬ (¬ (am_I h1 10 29 a0) = (am_I h1 10 30 a0)) →
     (am_K h1 a0 = 11 ∧ ∃ (Q5 : am_H → Prop) (X5 : String → am_H → Prop), am_Ct tt 177 [.ref a0, .int (Int32.ofNat 2), .int a2] h1 (am_pV Q5 X5) ∧ (∀ h4, Q5 h4 →
      am_Ev tt 190 147 [some (.ref a0), none, none, none, none, none, none, none] [] h4 (am_pV Q Qx)) ∧ (∀ E6 h4, X5 E6 h4 → Qx E6 h4))))))))) ∧ (∀ E7 h1, X2 E7 h1 → Qx E7 h1))) :
  am_Ev tt 190 123 [some (.ref a0), none, some (.int a2), none, none, none, none, none] [] h (am_pV Q Qx) := am_vc 15 [(30, [true, true, true, true, false, false, false, false]), (68, [true, false, true, true, false, false, false, false]), (123, [true, false, true, false, false, false, false, false]), (147, [true, false, false, false, false, false, false, false]), (153, [true, false, false, false, false, false, false, false]), (158, [true, false, false, true, true, false, false, false]), (186, [true, false, false, true, true, true, true, false]), (205, [true, false, false, true, true, true, true, false]), (274, [true, false, false, true, true, false, false, false])] q
theorem vc_190_147 (tt : Nat → Nat) (a0 : Nat) (h : am_H) (Q : am_H → Prop) (Qx : String → am_H → Prop) (q :
  (am_K h a0 = 11 ∧ ∃ (Q2 : am_H → Prop) (X2 : String → am_H → Prop), am_Ct tt 180 [.ref a0, .int (Int32.ofNat 9)] h (am_pV Q2 X2) ∧ (∀ h1, Q2 h1 →
   am_Ev tt 190 153 [some (.ref a0), none, none, none, none, none, none, none] [] h1 (am_pV Q Qx)) ∧ (∀ E3 h1, X2 E3 h1 → Qx E3 h1))) :
  am_Ev tt 190 147 [some (.ref a0), none, none, none, none, none, none, none] [] h (am_pV Q Qx) := am_vc 6 [(30, [true, true, true, true, false, false, false, false]), (68, [true, false, true, true, false, false, false, false]), (123, [true, false, true, false, false, false, false, false]), (147, [true, false, false, false, false, false, false, false]), (153, [true, false, false, false, false, false, false, false]), (158, [true, false, false, true, true, false, false, false]), (186, [true, false, false, true, true, true, true, false]), (205, [true, false, false, true, true, true, true, false]), (274, [true, false, false, true, true, false, false, false])] q
theorem vc_190_153 (tt : Nat → Nat) (a0 : Nat) (h : am_H) (Q : am_H → Prop) (Qx : String → am_H → Prop) (q :
  am_Ev tt 190 158 [some (.ref a0), none, none, some (.int (Int32.ofNat 0)), some (.int (Int32.ofNat 0)), none, none, none] [] h (am_pV Q Qx)) :
  am_Ev tt 190 153 [some (.ref a0), none, none, none, none, none, none, none] [] h (am_pV Q Qx) := am_vc 7 [(30, [true, true, true, true, false, false, false, false]), (68, [true, false, true, true, false, false, false, false]), (123, [true, false, true, false, false, false, false, false]), (147, [true, false, false, false, false, false, false, false]), (153, [true, false, false, false, false, false, false, false]), (158, [true, false, false, true, true, false, false, false]), (186, [true, false, false, true, true, true, true, false]), (205, [true, false, false, true, true, true, true, false]), (274, [true, false, false, true, true, false, false, false])] q
theorem vc_190_158 (tt : Nat → Nat) (a0 : Nat) (a3 : Int32) (a4 : Int32) (h : am_H) (Q : am_H → Prop) (Qx : String → am_H → Prop) (q :
  (am_K h a0 = 11 ∧
  (((am_I h 10 30 a0) ≤ a4 →
   Q h) ∧
  (¬ ((am_I h 10 30 a0) ≤ a4) →
   (am_K h a0 = 11 ∧ ∃ (Q2 : Int32 → am_H → Prop) (X2 : String → am_H → Prop), am_Ct tt 176 [.ref a0] h (am_pI Q2 X2) ∧ (∀ x3 h1, Q2 x3 h1 →
    ((x3 = (Int32.ofNat 0) →
     Q h1) ∧
    (¬ (x3 = (Int32.ofNat 0)) →
     (am_K h1 a0 = 11 ∧ ∃ q4, am_R h1 10 32 a0 = some q4 ∧
     ((am_K h1 q4 = 21 ∨ am_K h1 q4 = 31) ∧ vp_in a4 (am_N h1 q4) ∧
     am_Ev tt 190 186 [some (.ref a0), none, none, some (.int a3), some (.int a4), some (.int (am_A h1 q4 (a4).toNatClampNeg)), some (.int (Int32.ofNat 0)), none] [] h1 (am_pV Q Qx)))))) ∧ (∀ E5 h1, X2 E5 h1 → Qx E5 h1)))))) :
  am_Ev tt 190 158 [some (.ref a0), none, none, some (.int a3), some (.int a4), none, none, none] [] h (am_pV Q Qx) := am_vc 17 [(30, [true, true, true, true, false, false, false, false]), (68, [true, false, true, true, false, false, false, false]), (123, [true, false, true, false, false, false, false, false]), (147, [true, false, false, false, false, false, false, false]), (153, [true, false, false, false, false, false, false, false]), (158, [true, false, false, true, true, false, false, false]), (186, [true, false, false, true, true, true, true, false]), (205, [true, false, false, true, true, true, true, false]), (274, [true, false, false, true, true, false, false, false])] q
theorem vc_190_186 (tt : Nat → Nat) (a0 : Nat) (a3 : Int32) (a4 : Int32) (a5 : Int32) (a6 : Int32) (h : am_H) (Q : am_H → Prop) (Qx : String → am_H → Prop) (q :
  (am_K h a0 = 11 ∧ ∃ q1, am_R h 10 60 a0 = some q1 ∧
  ((am_K h q1 = 21 ∨ am_K h q1 = 31) ∧ vp_in a4 (am_N h q1) ∧
  (((am_A h q1 (a4).toNatClampNeg) ≤ a6 →
   am_Ev tt 190 274 [some (.ref a0), none, none, some (.int a3), some (.int a4), none, none, none] [] h (am_pV Q Qx)) ∧
  (¬ ((am_A h q1 (a4).toNatClampNeg) ≤ a6) →
   (am_K h a0 = 11 ∧ ∃ (Q3 : Int32 → am_H → Prop) (X3 : String → am_H → Prop), am_Ct tt 176 [.ref a0] h (am_pI Q3 X3) ∧ (∀ x4 h2, Q3 x4 h2 →
    ((x4 = (Int32.ofNat 0) →
     am_Ev tt 190 274 [some (.ref a0), none, none, some (.int a3), some (.int a4), none, none, none] [] h2 (am_pV Q Qx)) ∧
    (¬ (x4 = (Int32.ofNat 0)) →
     am_Ev tt 190 205 [some (.ref a0), none, none, some (.int a3), some (.int a4), some (.int a5), some (.int a6), none] [] h2 (am_pV Q Qx)))) ∧ (∀ E5 h2, X3 E5 h2 → Qx E5 h2))))))) :
  am_Ev tt 190 186 [some (.ref a0), none, none, some (.int a3), some (.int a4), some (.int a5), some (.int a6), none] [] h (am_pV Q Qx) := am_vc 12 [(30, [true, true, true, true, false, false, false, false]), (68, [true, false, true, true, false, false, false, false]), (123, [true, false, true, false, false, false, false, false]), (147, [true, false, false, false, false, false, false, false]), (153, [true, false, false, false, false, false, false, false]), (158, [true, false, false, true, true, false, false, false]), (186, [true, false, false, true, true, true, true, false]), (205, [true, false, false, true, true, true, true, false]), (274, [true, false, false, true, true, false, false, false])] q
theorem vc_190_205 (tt : Nat → Nat) (a0 : Nat) (a3 : Int32) (a4 : Int32) (a5 : Int32) (a6 : Int32) (h : am_H) (Q : am_H → Prop) (Qx : String → am_H → Prop) (q :
  (am_K h a0 = 11 ∧ ∃ q1, am_R h 10 60 a0 = some q1 ∧
  ((am_K h q1 = 21 ∨ am_K h q1 = 31) ∧ vp_in a4 (am_N h q1) ∧
  (am_K h a0 = 11 ∧ ∃ q2, am_R h 10 38 a0 = some q2 ∧
  ((¬ (((am_A h q1 (a4).toNatClampNeg) - (Int32.ofNat 1)) - a6) = (Int32.ofNat 0) →
   (am_K h a0 = 11 ∧ ∃ (Q4 : Int32 → am_H → Prop) (X4 : String → am_H → Prop), am_Ct tt 182 [.ref a0, .long (Int64.ofNat 1), .long ((a5 - (((am_A h q1 (a4).toNatClampNeg) - (Int32.ofNat 1)) - a6))).toInt64] h (am_pI Q4 X4) ∧ (∀ x5 h3, Q4 x5 h3 →
    (am_K h3 q2 = 21 ∧ vp_in a3 (am_N h3 q2) ∧
    (am_K h3 a0 = 11 ∧ ∃ q6, am_R h3 10 38 a0 = some q6 ∧
    ((am_K h3 q6 = 21 ∨ am_K h3 q6 = 31) ∧ vp_in a3 (am_N h3 q6) ∧
    (am_K h3 a0 = 11 ∧ ∃ q7, am_R h3 10 39 a0 = some q7 ∧
    (am_K h3 q7 = 21 ∧ vp_in a3 (am_N h3 q7) ∧
    am_Ev tt 190 186 [some (.ref a0), none, none, some (.int (a3 + (Int32.ofNat 1))), some (.int a4), some (.int (a5 - (am_A (am_sA h3 q2 (a3).toNatClampNeg x5) q6 (a3).toNatClampNeg))), some (.int (a6 + (Int32.ofNat 1))), none] [] (am_sA (am_sA h3 q2 (a3).toNatClampNeg x5) q7 (a3).toNatClampNeg a4) (am_pV Q Qx))))))) ∧ (∀ E8 h3, X4 E8 h3 → Qx E8 h3))) ∧
  (¬ (¬ (((am_A h q1 (a4).toNatClampNeg) - (Int32.ofNat 1)) - a6) = (Int32.ofNat 0)) →
   (am_K h q2 = 21 ∧ vp_in a3 (am_N h q2) ∧
   (am_K h a0 = 11 ∧ ∃ q9, am_R h 10 38 a0 = some q9 ∧
   ((am_K h q9 = 21 ∨ am_K h q9 = 31) ∧ vp_in a3 (am_N h q9) ∧
   (am_K h a0 = 11 ∧ ∃ q10, am_R h 10 39 a0 = some q10 ∧
   (am_K h q10 = 21 ∧ vp_in a3 (am_N h q10) ∧
   am_Ev tt 190 186 [some (.ref a0), none, none, some (.int (a3 + (Int32.ofNat 1))), some (.int a4), some (.int (a5 - (am_A (am_sA h q2 (a3).toNatClampNeg a5) q9 (a3).toNatClampNeg))), some (.int (a6 + (Int32.ofNat 1))), none] [] (am_sA (am_sA h q2 (a3).toNatClampNeg a5) q10 (a3).toNatClampNeg a4) (am_pV Q Qx)))))))))))) :
  am_Ev tt 190 205 [some (.ref a0), none, none, some (.int a3), some (.int a4), some (.int a5), some (.int a6), none] [] h (am_pV Q Qx) := am_vc 40 [(30, [true, true, true, true, false, false, false, false]), (68, [true, false, true, true, false, false, false, false]), (123, [true, false, true, false, false, false, false, false]), (147, [true, false, false, false, false, false, false, false]), (153, [true, false, false, false, false, false, false, false]), (158, [true, false, false, true, true, false, false, false]), (186, [true, false, false, true, true, true, true, false]), (205, [true, false, false, true, true, true, true, false]), (274, [true, false, false, true, true, false, false, false])] q
set_option maxRecDepth 4096 in
theorem vc_190_274 (tt : Nat → Nat) (a0 : Nat) (a3 : Int32) (a4 : Int32) (h : am_H) (Q : am_H → Prop) (Qx : String → am_H → Prop) (q :
  am_Ev tt 190 158 [some (.ref a0), none, none, some (.int a3), some (.int (a4 + (Int32.ofNat 1))), none, none, none] [] h (am_pV Q Qx)) :
  am_Ev tt 190 274 [some (.ref a0), none, none, some (.int a3), some (.int a4), none, none, none] [] h (am_pV Q Qx) := am_vc 5 [(30, [true, true, true, true, false, false, false, false]), (68, [true, false, true, true, false, false, false, false]), (123, [true, false, true, false, false, false, false, false]), (147, [true, false, false, false, false, false, false, false]), (153, [true, false, false, false, false, false, false, false]), (158, [true, false, false, true, true, false, false, false]), (186, [true, false, false, true, true, true, true, false]), (205, [true, false, false, true, true, true, true, false]), (274, [true, false, false, true, true, false, false, false])] q

def pFX (F : Fn) (n B : Nat) (g : Nat → Nat) (p : Nat) : Except pe (FI × Nat) := bd (tB F n p) fun t p1 =>
    if t = Int32.ofNat 13 then bd (lFc F n B 0 p1 0 (fun _ => 0)) fun sf p2 => if sf.1 = B then .error (2, p) else bd (tX F n p2 9) fun _ p3 => lFs F n g sf.2 B 0 p3 FI0 else lFs F n g (fun _ => 1) B 0 p FI0
theorem pFI_x {F : Fn} {n B : Nat} {g : Nat → Nat} {p : Nat} : pFI F n B g p = bd (tX F n p 8) fun _ p => bd (pFX F n B g p) fun x p => bd (tX F n p 10) fun _ p => bd (tX F n p 1) fun _ p => bd (lCk F n x.1 0 p (fun _ => Int64.ofNat 0)) fun c p => bd (tX F n p 0) fun _ p => .ok ((x, c), p) := by
  rw [pFI]
  cases tX F n p 8 with
  | error e => rfl
  | ok a =>
    obtain ⟨_, q⟩ := a
    show bd (tB F n q) _ = bd (pFX F n B g q) _
    rw [pFX]
    cases tB F n q with
    | error e => rfl
    | ok a => rfl
section MPA
variable {tt : Nat → Nat} {F : Fn} {n m : Nat} {ad : Nat → Nat} {h h' h'' k k' : am_H} {s : Ms} {X Y X' Y' : Nat → Prop}
abbrev Xpa (k : Nat) : Prop := k = 38 ∨ k = 39 ∨ k = 60
abbrev Ypa (f : Nat) : Prop := f = 20 ∨ f = 27 ∨ f = 28 ∨ f = 51 ∨ f = 29
def fiR (ad : Nat → Nat) (x : FI) (k : am_H) : Prop := ∀ f, f < x.1 → am_A k (ad 38) f = Int32.ofNat (x.2.2 f) ∧ am_A k (ad 39) f = Int32.ofNat (x.2.1 f)
def paQ (F : Fn) (n m : Nat) (ad : Nat → Nat) (h : am_H) (r : Except pe (FI × Nat)) (k : am_H) : Prop := MY F n k m ad (st r) ∧ mg m ad Xpa Ypa h k ∧ ∀ x p', r = .ok (x, p') → am_I k 10 29 m = Int32.ofNat x.1 ∧ fiR ad x k
theorem pa_158b {r : Except pe (FI × Nat)} {e : pe} (er : r = .error e) (y : MY F n k m ad (.error e)) (g : mg m ad Xpa Ypa h k) {a3 a4 : Int32} : am_Ev tt 190 158 [some (.ref m), none, none, some (.int a3), some (.int a4), none, none, none] [] k (am_pV (paQ F n m ad h r) no_x) := by
  have fin : paQ F n m ad h r k := by rw [er]; exact ⟨y, g, fun x p' z => by cases z⟩
  refine vc_190_158 tt _ _ _ _ _ _ ⟨y.1.1, fun _ => fin, fun _ => ⟨y.1.1, _, _, ct_mfine y, fun x k2 e2 => ?_, fun _ _ z => z.elim⟩⟩
  obtain ⟨rfl, rfl⟩ := e2
  exact ⟨fun _ => fin, fun z => absurd rfl z⟩
theorem pa_186b {r : Except pe (FI × Nat)} {e : pe} (er : r = .error e) (y : MY F n k m ad (.error e)) (g : mg m ad Xpa Ypa h k) {a3 a5 a6 : Int32} {b : Nat} (hb : b < 6) : am_Ev tt 190 186 [some (.ref m), none, none, some (.int a3), some (.int (Int32.ofNat b)), some (.int a5), some (.int a6), none] [] k (am_pV (paQ F n m ad h r) no_x) := by
  have kk := y.1.1
  obtain ⟨b1, b2, b3⟩ := md_r y.1 (k := 60) (by decide) rfl (by decide)
  have nx : am_Ev tt 190 274 [some (.ref m), none, none, some (.int a3), some (.int (Int32.ofNat b)), none, none, none] [] k (am_pV (paQ F n m ad h r) no_x) := vc_190_274 tt _ _ _ _ _ _ (pa_158b er y g)
  refine vc_190_186 tt _ _ _ _ _ _ _ _ ?_
  simp (disch := omega) only [kk, b1, b2, b3, hb, qi_lt, qi_le, qi_eq, qi_nn, qi_in, qi_add, qi_l, ql_i, ql_lt, ql_le, ql_eq, ql_add, qc_lt, qc_eq, qc_ge, qc_gt, qc_le, true_and, and_true, and_self, true_or, or_true, false_or, or_false, false_and, and_false, not_true_eq_false, not_false_eq_true, Classical.not_not, true_implies, false_implies, implies_true, exists_eq_left, exists_eq_left', Option.some.injEq, reduceIte, Nat.reduceEqDiff, Nat.reduceLT, Nat.reduceLeDiff, Nat.reduceAdd, Nat.reduceSub, Nat.reduceMul, eq_self, ne_eq, and_imp, forall_const, reduceCtorEq, am_w, List.map_cons, List.map_nil, List.sum_cons, List.sum_nil, Value.category, Nat.zero_le, Nat.le_refl]
  refine ⟨fun _ => nx, fun _ => ⟨_, _, ct_mfine y, fun x k2 e2 => ?_, fun _ _ z => z.elim⟩⟩
  obtain ⟨rfl, rfl⟩ := e2
  exact ⟨fun _ => nx, fun z => absurd rfl z⟩
theorem fiR.put {x : FI} {b z : Nat} (hx : fiR ad x k) (sm : md_s k m ad) : fiR ad (adF x b z) (am_sA (am_sA k (ad 38) x.1 (Int32.ofNat z)) (ad 39) x.1 (Int32.ofNat b)) := by
  have dj := ad_ne sm
  intro f hf
  have hf : f < x.1 + 1 := hf
  show _ = Int32.ofNat (va_up x.2.2 x.1 z f) ∧ _ = Int32.ofNat (va_up x.2.1 x.1 b f)
  unfold va_up
  by_cases c : f = x.1
  · subst c
    simp (disch := omega) only [am_hs, dj, true_and, and_true, and_self, true_or, or_true, false_or, or_false, false_and, and_false, not_true_eq_false, not_false_eq_true, Classical.not_not, true_implies, false_implies, implies_true, exists_eq_left, exists_eq_left', Option.some.injEq, reduceIte, Nat.reduceEqDiff, Nat.reduceLT, Nat.reduceLeDiff, Nat.reduceAdd, Nat.reduceSub, Nat.reduceMul, eq_self, ne_eq, and_imp, forall_const, reduceCtorEq, am_w, List.map_cons, List.map_nil, List.sum_cons, List.sum_nil, Value.category, Nat.zero_le, Nat.le_refl]
  · simp (disch := omega) only [am_hs, dj, c, true_and, and_true, and_self, true_or, or_true, false_or, or_false, false_and, and_false, not_true_eq_false, not_false_eq_true, Classical.not_not, true_implies, false_implies, implies_true, exists_eq_left, exists_eq_left', Option.some.injEq, reduceIte, Nat.reduceEqDiff, Nat.reduceLT, Nat.reduceLeDiff, Nat.reduceAdd, Nat.reduceSub, Nat.reduceMul, eq_self, ne_eq, and_imp, forall_const, reduceCtorEq, am_w, List.map_cons, List.map_nil, List.sum_cons, List.sum_nil, Value.category, Nat.zero_le, Nat.le_refl]
    exact hx f (by omega)
/-- the files of a block -/
theorem pa_186 {r : Except pe (FI × Nat)} {b W : Nat} (hb : b < 6) (hW : W ≤ 24) {K : FI → Nat → Except pe (FI × Nat)}
    (nx : ∀ (k : am_H) (x : FI) (q : Nat), MY F n k m ad (.ok q) → mg m ad Xpa Ypa h k → mg m ad (fun k => k = 38 ∨ k = 39) Yn h' k → fiR ad x k → r = K x q → x.1 = W → am_Ev tt 190 274 [some (.ref m), none, none, some (.int (Int32.ofNat x.1)), some (.int (Int32.ofNat b)), none, none, none] [] k (am_pV (paQ F n m ad h r) no_x)) :
    ∀ (d i : Nat) (k : am_H) (x : FI) (q left : Nat), MY F n k m ad (.ok q) → mg m ad Xpa Ypa h k → mg m ad (fun k => k = 38 ∨ k = 39) Yn h' k → fiR ad x k → r = bd (lFi F n b d q left x) K → x.1 + d + 1 = W → left < 5000 → am_A k (ad 60) b = Int32.ofNat (i + d + 1) → i + d + 1 ≤ 24 → am_Ev tt 190 186 [some (.ref m), none, none, some (.int (Int32.ofNat x.1)), some (.int (Int32.ofNat b)), some (.int (Int32.ofNat left)), some (.int (Int32.ofNat i)), none] [] k (am_pV (paQ F n m ad h r) no_x) := by
  intro d
  induction d with
  | zero =>
    intro i k x q left y g g' hx hr eW hl5 e60 i24
    have kk := y.1.1
    have x24 : x.1 < 24 := by omega
    obtain ⟨b1, b2, b3⟩ := md_r y.1 (k := 60) (by decide) rfl (by decide)
    obtain ⟨c1, c2, c3⟩ := md_r y.1 (k := 38) (by decide) rfl (by decide)
    obtain ⟨d1, d2, d3⟩ := md_r y.1 (k := 39) (by decide) rfl (by decide)
    have q1 : ¬ i + 0 + 1 ≤ i := by omega
    have eb : Int32.ofNat (i + 0 + 1) - Int32.ofNat 1 - Int32.ofNat i = Int32.ofNat 0 := by rw [qi_sub (by omega), qi_sub (by omega)]; congr 1; omega
    refine vc_190_186 tt _ _ _ _ _ _ _ _ ?_
    simp (disch := omega) only [kk, b1, b2, b3, hb, e60, q1, qi_lt, qi_le, qi_eq, qi_nn, qi_in, qi_add, qi_l, ql_i, ql_lt, ql_le, ql_eq, ql_add, qc_lt, qc_eq, qc_ge, qc_gt, qc_le, true_and, and_true, and_self, true_or, or_true, false_or, or_false, false_and, and_false, not_true_eq_false, not_false_eq_true, Classical.not_not, true_implies, false_implies, implies_true, exists_eq_left, exists_eq_left', Option.some.injEq, reduceIte, Nat.reduceEqDiff, Nat.reduceLT, Nat.reduceLeDiff, Nat.reduceAdd, Nat.reduceSub, Nat.reduceMul, eq_self, ne_eq, and_imp, forall_const, reduceCtorEq, am_w, List.map_cons, List.map_nil, List.sum_cons, List.sum_nil, Value.category, Nat.zero_le, Nat.le_refl]
    refine ⟨_, _, ct_mfine y, fun z k2 e2 => ?_, fun _ _ z => z.elim⟩
    obtain ⟨rfl, rfl⟩ := e2
    refine ⟨fun z => absurd z (show ¬ Int32.ofNat 1 = Int32.ofNat 0 by decide), fun _ => ?_⟩
    refine vc_190_205 tt _ _ _ _ _ _ _ _ ?_
    have s1 : mg m ad (fun k => k = 38 ∨ k = 39) Yz k2 (am_sA k2 (ad 38) x.1 (Int32.ofNat left)) := mg.sA y.1 (Or.inl rfl)
    have s2 : mg m ad (fun k => k = 38 ∨ k = 39) Yz (am_sA k2 (ad 38) x.1 (Int32.ofNat left)) (am_sA (am_sA k2 (ad 38) x.1 (Int32.ofNat left)) (ad 39) x.1 (Int32.ofNat b)) := mg.sA (s1.1.md y.1) (Or.inr rfl)
    have s12 := s1.tr s2
    have y' := y.on s12 (by omega) id id id id
    have dj := ad_ne y'.1
    obtain ⟨m1, m2, m3⟩ := md_r y'.1 (k := 60) (by decide) rfl (by decide)
    have kk' := y'.1.1
    have e60' : am_A (am_sA (am_sA k2 (ad 38) x.1 (Int32.ofNat left)) (ad 39) x.1 (Int32.ofNat b)) (ad 60) b = Int32.ofNat (i + 1) := by rw [(s12.2.1 60 (by omega)).1, e60]
    have fin := nx _ (adF x b left) q y' (g.tr (s12.mo (fun _ z => by omega) (fun _ z => z.elim))) (g'.tr (s12.mo (fun _ z => z) (fun _ z => z.elim))) (hx.put y.1) (by rw [hr]; rfl) (by show x.1 + 1 = W; omega)
    have fin : am_Ev tt 190 274 [some (.ref m), none, none, some (.int (Int32.ofNat (x.1 + 1))), some (.int (Int32.ofNat b)), none, none, none] [] (am_sA (am_sA k2 (ad 38) x.1 (Int32.ofNat left)) (ad 39) x.1 (Int32.ofNat b)) (am_pV (paQ F n m ad h r) no_x) := fin
    simp (disch := omega) only [kk, b1, b2, b3, c1, c2, c3, d1, d2, d3, hb, e60, eb, x24, am_hs, qi_lt, qi_le, qi_eq, qi_nn, qi_in, qi_add, qi_l, ql_i, ql_lt, ql_le, ql_eq, ql_add, qc_lt, qc_eq, qc_ge, qc_gt, qc_le, true_and, and_true, and_self, true_or, or_true, false_or, or_false, false_and, and_false, not_true_eq_false, not_false_eq_true, Classical.not_not, true_implies, false_implies, implies_true, exists_eq_left, exists_eq_left', Option.some.injEq, reduceIte, Nat.reduceEqDiff, Nat.reduceLT, Nat.reduceLeDiff, Nat.reduceAdd, Nat.reduceSub, Nat.reduceMul, eq_self, ne_eq, and_imp, forall_const, reduceCtorEq, am_w, List.map_cons, List.map_nil, List.sum_cons, List.sum_nil, Value.category, Nat.zero_le, Nat.le_refl]
    refine vc_190_186 tt _ _ _ _ _ _ _ _ ?_
    simp (disch := omega) only [kk', m1, m2, m3, hb, e60', qi_lt, qi_le, qi_eq, qi_nn, qi_in, qi_add, qi_l, ql_i, ql_lt, ql_le, ql_eq, ql_add, qc_lt, qc_eq, qc_ge, qc_gt, qc_le, true_and, and_true, and_self, true_or, or_true, false_or, or_false, false_and, and_false, not_true_eq_false, not_false_eq_true, Classical.not_not, true_implies, false_implies, implies_true, exists_eq_left, exists_eq_left', Option.some.injEq, reduceIte, Nat.reduceEqDiff, Nat.reduceLT, Nat.reduceLeDiff, Nat.reduceAdd, Nat.reduceSub, Nat.reduceMul, eq_self, ne_eq, and_imp, forall_const, reduceCtorEq, am_w, List.map_cons, List.map_nil, List.sum_cons, List.sum_nil, Value.category, Nat.zero_le, Nat.le_refl]
    exact fin
  | succ d ih =>
    intro i k x q left y g g' hx hr eW hl5 e60 i24
    have kk := y.1.1
    have x24 : x.1 < 24 := by omega
    obtain ⟨b1, b2, b3⟩ := md_r y.1 (k := 60) (by decide) rfl (by decide)
    obtain ⟨c1, c2, c3⟩ := md_r y.1 (k := 38) (by decide) rfl (by decide)
    have q1 : ¬ i + (d + 1) + 1 ≤ i := by omega
    have eb : Int32.ofNat (i + (d + 1) + 1) - Int32.ofNat 1 - Int32.ofNat i = Int32.ofNat (d + 1) := by rw [qi_sub (by omega), qi_sub (by omega)]; congr 1; omega
    have nz : ¬ d + 1 = 0 := by omega
    refine vc_190_186 tt _ _ _ _ _ _ _ _ ?_
    simp (disch := omega) only [kk, b1, b2, b3, hb, e60, q1, qi_lt, qi_le, qi_eq, qi_nn, qi_in, qi_add, qi_l, ql_i, ql_lt, ql_le, ql_eq, ql_add, qc_lt, qc_eq, qc_ge, qc_gt, qc_le, true_and, and_true, and_self, true_or, or_true, false_or, or_false, false_and, and_false, not_true_eq_false, not_false_eq_true, Classical.not_not, true_implies, false_implies, implies_true, exists_eq_left, exists_eq_left', Option.some.injEq, reduceIte, Nat.reduceEqDiff, Nat.reduceLT, Nat.reduceLeDiff, Nat.reduceAdd, Nat.reduceSub, Nat.reduceMul, eq_self, ne_eq, and_imp, forall_const, reduceCtorEq, am_w, List.map_cons, List.map_nil, List.sum_cons, List.sum_nil, Value.category, Nat.zero_le, Nat.le_refl]
    refine ⟨_, _, ct_mfine y, fun z k2 e2 => ?_, fun _ _ z => z.elim⟩
    obtain ⟨rfl, rfl⟩ := e2
    refine ⟨fun z => absurd z (show ¬ Int32.ofNat 1 = Int32.ofNat 0 by decide), fun _ => ?_⟩
    refine vc_190_205 tt _ _ _ _ _ _ _ _ ?_
    simp (disch := omega) only [kk, b1, b2, b3, c1, c2, c3, hb, e60, eb, nz, qi_lt, qi_le, qi_eq, qi_nn, qi_in, qi_add, qi_l, ql_i, ql_lt, ql_le, ql_eq, ql_add, qc_lt, qc_eq, qc_ge, qc_gt, qc_le, true_and, and_true, and_self, true_or, or_true, false_or, or_false, false_and, and_false, not_true_eq_false, not_false_eq_true, Classical.not_not, true_implies, false_implies, implies_true, exists_eq_left, exists_eq_left', Option.some.injEq, reduceIte, Nat.reduceEqDiff, Nat.reduceLT, Nat.reduceLeDiff, Nat.reduceAdd, Nat.reduceSub, Nat.reduceMul, eq_self, ne_eq, and_imp, forall_const, reduceCtorEq, am_w, List.map_cons, List.map_nil, List.sum_cons, List.sum_nil, Value.category, Nat.zero_le, Nat.le_refl]
    refine ⟨_, _, ct_rnumberIn y (l := l64 1) (u := (Int32.ofNat left - Int32.ofNat (d + 1)).toInt64) (by decide) rfl, fun v k3 e3 => ?_, fun _ _ z => z.elim⟩
    obtain ⟨y3, g3, v3, v3e, _⟩ := e3
    have y3 : MY F n k3 m ad (st (tN F n q (l64 1) (Int32.ofNat left - Int32.ofNat (d + 1)).toInt64)) := y3
    have v3 : ∀ a p', tN F n q (l64 1) (Int32.ofNat left - Int32.ofNat (d + 1)).toInt64 = .ok (a, p') → v = a.toInt32 := v3
    have kk3 := y3.1.1
    obtain ⟨d1, d2, d3⟩ := md_r y3.1 (k := 38) (by decide) rfl (by decide)
    obtain ⟨f1, f2, f3⟩ := md_r y3.1 (k := 39) (by decide) rfl (by decide)
    simp (disch := omega) only [kk3, d1, d2, d3, f1, f2, f3, x24, am_hs, qi_lt, qi_le, qi_eq, qi_nn, qi_in, qi_add, qi_l, ql_i, ql_lt, ql_le, ql_eq, ql_add, qc_lt, qc_eq, qc_ge, qc_gt, qc_le, true_and, and_true, and_self, true_or, or_true, false_or, or_false, false_and, and_false, not_true_eq_false, not_false_eq_true, Classical.not_not, true_implies, false_implies, implies_true, exists_eq_left, exists_eq_left', Option.some.injEq, reduceIte, Nat.reduceEqDiff, Nat.reduceLT, Nat.reduceLeDiff, Nat.reduceAdd, Nat.reduceSub, Nat.reduceMul, eq_self, ne_eq, and_imp, forall_const, reduceCtorEq, am_w, List.map_cons, List.map_nil, List.sum_cons, List.sum_nil, Value.category, Nat.zero_le, Nat.le_refl]
    have s1 : mg m ad (fun k => k = 38 ∨ k = 39) Yz k3 (am_sA k3 (ad 38) x.1 v) := mg.sA y3.1 (Or.inl rfl)
    have s2 : mg m ad (fun k => k = 38 ∨ k = 39) Yz (am_sA k3 (ad 38) x.1 v) (am_sA (am_sA k3 (ad 38) x.1 v) (ad 39) x.1 (Int32.ofNat b)) := mg.sA (s1.1.md y3.1) (Or.inr rfl)
    have s12 := s1.tr s2
    have y' := y3.on s12 (by omega) id id id id
    have gg : mg m ad Xpa Ypa h (am_sA (am_sA k3 (ad 38) x.1 v) (ad 39) x.1 (Int32.ofNat b)) := g.tr ((g3.mo (fun _ z => z.elim) (fun _ z => by omega)).tr (s12.mo (fun _ z => by omega) (fun _ z => z.elim)))
    have gg' : mg m ad (fun k => k = 38 ∨ k = 39) Yn h' (am_sA (am_sA k3 (ad 38) x.1 v) (ad 39) x.1 (Int32.ofNat b)) := g'.tr ((g3.mo (fun _ z => z.elim) (fun _ z => z)).tr (s12.mo (fun _ z => z) (fun _ z => z.elim)))
    rw [lFi] at hr
    cases e1 : tN F n q (l64 1) (Int32.ofNat left - Int32.ofNat (d + 1)).toInt64 with
    | error e =>
      rw [e1] at y' hr
      exact pa_186b (e := e) hr y' gg hb
    | ok a =>
      obtain ⟨a, q'⟩ := a
      obtain ⟨v', rfl, u1, u2, u3⟩ := tN_d (by omega) (by omega) e1
      have ev : v = Int32.ofNat v' := by rw [v3 _ _ e1]; exact ql_i
      subst ev
      rw [e1] at y' hr
      have hr : r = bd (lFi F n b d q' (left - (Int64.ofNat v').toNatClampNeg) (adF x b (Int64.ofNat v').toNatClampNeg)) K := hr
      rw [u3] at hr
      have hx3 : fiR ad x k3 := fun f hf => by rw [(g3.2.1 38 (fun z => z)).1, (g3.2.1 39 (fun z => z)).1]; exact hx f hf
      have := ih (i + 1) _ (adF x b v') q' (left - v') y' gg gg' (hx3.put y3.1) hr (by show x.1 + 1 + d + 1 = W; omega) (by omega) (by rw [(s12.2.1 60 (by omega)).1, (g3.2.1 60 (fun z => z)).1, e60]; congr 1; omega) (by omega)
      have this : am_Ev tt 190 186 [some (.ref m), none, none, some (.int (Int32.ofNat (x.1 + 1))), some (.int (Int32.ofNat b)), some (.int (Int32.ofNat (left - v'))), some (.int (Int32.ofNat (i + 1))), none] [] (am_sA (am_sA k3 (ad 38) x.1 (Int32.ofNat v')) (ad 39) x.1 (Int32.ofNat b)) (am_pV (paQ F n m ad h r) no_x) := this
      rw [qi_sub (show v' ≤ left by omega)]
      exact this
end MPA
