/-! deps: 16e -/
/-! ===== the reference's calls: clear, peek, poke, type, cut, seal, count, fault ===== -/
/-! 129 yX10_thrown -/
theorem vc_129_0 (tt : Nat → Nat) (a0 : Nat) (h : am_H) (Q : Int32 → am_H → Prop) (Qx : String → am_H → Prop) (q :
  (am_K h a0 = 11 ∧
  Q (am_I h 10 0 a0) h)) :
  am_Ev tt 129 0 [some (.ref a0)] [] h (am_pI Q Qx) := am_vc 5 [] q

/-! 147 yX10_clear -/
theorem vc_147_0 (tt : Nat → Nat) (a0 : Nat) (h : am_H) (Q : Int32 → am_H → Prop) (Qx : String → am_H → Prop) (q :
  (am_K h a0 = 11 ∧
  (am_K h a0 = 11 ∧
  (am_K h a0 = 11 ∧
  am_Ev tt 147 17 [some (.ref a0), some (.int (am_I h 10 1 a0)), some (.int (Int32.ofNat 0))] [] (am_sI (am_sI h 10 0 a0 (Int32.ofNat 0)) 10 1 a0 (Int32.ofNat 0)) (am_pI Q Qx))))) :
  am_Ev tt 147 0 [some (.ref a0), none, none] [] h (am_pI Q Qx) := am_vc 14 [(17, [true, true, true])] q
theorem vc_147_17 (tt : Nat → Nat) (a0 : Nat) (a1 : Int32) (a2 : Int32) (h : am_H) (Q : Int32 → am_H → Prop) (Qx : String → am_H → Prop) (q :
  (((Int32.ofNat 6) ≤ a2 →
   Q a1 h) ∧
  (¬ ((Int32.ofNat 6) ≤ a2) →
   (am_K h a0 = 11 ∧ ∃ q1, am_R h 10 14 a0 = some q1 ∧
   (am_K h q1 = 21 ∧ vp_in a2 (am_N h q1) ∧
   (am_K h a0 = 11 ∧ ∃ q2, am_R h 10 17 a0 = some q2 ∧
   (vp_in a2 (am_N h q2) ∧ ∃ w3, ((am_K h q2 = 23 ∧ w3 = ((Int32.ofNat 0)).toInt8.toInt32) ∨ (am_K h q2 = 24 ∧ w3 = ((Int32.ofNat 0) &&& 1))) ∧
   am_Ev tt 147 17 [some (.ref a0), some (.int a1), some (.int (a2 + (Int32.ofNat 1)))] [] (am_sA (am_sA h q1 (a2).toNatClampNeg (Int32.ofNat 0)) q2 (a2).toNatClampNeg w3) (am_pI Q Qx)))))))) :
  am_Ev tt 147 17 [some (.ref a0), some (.int a1), some (.int a2)] [] h (am_pI Q Qx) := am_vc 18 [(17, [true, true, true])] q

/-! 148 yX10_isByte -/
theorem vc_148_0 (tt : Nat → Nat) (a0 : Nat) (a1 : Int64) (h : am_H) (Q : Int32 → am_H → Prop) (Qx : String → am_H → Prop) (q :
  (am_K h a0 = 11 ∧
  (∃ (Q2 : Int32 → am_H → Prop) (X2 : String → am_H → Prop), am_Ct tt 130 [.long a1, .long (Int64.ofNat 0), .long (((am_I h 10 19 a0)).toInt64 - (Int64.ofNat 1))] h (am_pI Q2 X2) ∧ (∀ x3 h1, Q2 x3 h1 →
   ((x3 = (Int32.ofNat 0) ∨ x3 = (Int32.ofNat 1)) ∧ Q x3 h1)) ∧ (∀ E4 h1, X2 E4 h1 → Qx E4 h1)))) :
  am_Ev tt 148 0 [some (.ref a0), some (.long a1), none] [] h (am_pI Q Qx) := am_vc 11 [] q

/-! 149 yX10_peek -/
theorem vc_149_0 (tt : Nat → Nat) (a0 : Nat) (a1 : Int64) (h : am_H) (Q : Int32 → am_H → Prop) (Qx : String → am_H → Prop) (q :
  (am_K h a0 = 11 ∧ ∃ (Q2 : Int32 → am_H → Prop) (X2 : String → am_H → Prop), am_Ct tt 148 [.ref a0, .long a1] h (am_pI Q2 X2) ∧ (∀ x3 h1, Q2 x3 h1 →
   ((x3 = (Int32.ofNat 0) →
    (am_K h1 a0 = 11 ∧
    (am_K h1 a0 = 11 ∧
    (((am_I (am_sI h1 10 0 a0 (Int32.ofNat 1)) 10 0 a0) ≤ (Int32.ofNat 0) →
     (am_K h1 a0 = 11 ∧ ∃ q4, am_R h1 10 18 a0 = some q4 ∧
     ((am_K h1 q4 = 23 ∨ am_K h1 q4 = 24) ∧ vp_in (a1).toInt32 (am_N h1 q4) ∧
     Q ((am_A h1 q4 ((a1).toInt32).toNatClampNeg) &&& (Int32.ofNat 255)) (am_sI h1 10 0 a0 (Int32.ofNat 1))))) ∧
    (¬ ((am_I (am_sI h1 10 0 a0 (Int32.ofNat 1)) 10 0 a0) ≤ (Int32.ofNat 0)) →
     Q (Int32.ofNat 0) (am_sI h1 10 0 a0 (Int32.ofNat 1))))))) ∧
   (¬ (x3 = (Int32.ofNat 0)) →
    (am_K h1 a0 = 11 ∧
    (am_K h1 a0 = 11 ∧
    (((am_I (am_sI h1 10 0 a0 (Int32.ofNat 0)) 10 0 a0) ≤ (Int32.ofNat 0) →
     (am_K h1 a0 = 11 ∧ ∃ q5, am_R h1 10 18 a0 = some q5 ∧
     ((am_K h1 q5 = 23 ∨ am_K h1 q5 = 24) ∧ vp_in (a1).toInt32 (am_N h1 q5) ∧
     Q ((am_A h1 q5 ((a1).toInt32).toNatClampNeg) &&& (Int32.ofNat 255)) (am_sI h1 10 0 a0 (Int32.ofNat 0))))) ∧
    (¬ ((am_I (am_sI h1 10 0 a0 (Int32.ofNat 0)) 10 0 a0) ≤ (Int32.ofNat 0)) →
     Q (Int32.ofNat 0) (am_sI h1 10 0 a0 (Int32.ofNat 0))))))))) ∧ (∀ E6 h1, X2 E6 h1 → Qx E6 h1))) :
  am_Ev tt 149 0 [some (.ref a0), some (.long a1), none] [] h (am_pI Q Qx) := am_vc 21 [] q

/-! 150 yX10_poke -/
theorem vc_150_0 (tt : Nat → Nat) (a0 : Nat) (a1 : Int64) (a3 : Int32) (h : am_H) (Q : Int32 → am_H → Prop) (Qx : String → am_H → Prop) (q :
  (am_K h a0 = 11 ∧ ∃ (Q2 : Int32 → am_H → Prop) (X2 : String → am_H → Prop), am_Ct tt 148 [.ref a0, .long a1] h (am_pI Q2 X2) ∧ (∀ x3 h1, Q2 x3 h1 →
   ((¬ x3 = (Int32.ofNat 0) →
    (∃ (Q5 : Int32 → am_H → Prop) (X5 : String → am_H → Prop), am_Ct tt 130 [.long (a3).toInt64, .long (Int64.ofNat 0), .long (Int64.ofNat 255)] h1 (am_pI Q5 X5) ∧ (∀ x6 h4, Q5 x6 h4 →
     ((x6 = (Int32.ofNat 0) →
      (am_K h4 a0 = 11 ∧
      (am_K h4 a0 = 11 ∧
      (((am_I (am_sI h4 10 0 a0 (Int32.ofNat 2)) 10 0 a0) ≤ (Int32.ofNat 0) →
       (am_K h4 a0 = 11 ∧ ∃ q7, am_R h4 10 18 a0 = some q7 ∧
       ((am_K h4 q7 = 23 ∨ am_K h4 q7 = 24) ∧ vp_in (a1).toInt32 (am_N h4 q7) ∧
       (am_K h4 a0 = 11 ∧ ∃ q8, am_R h4 10 18 a0 = some q8 ∧
       (vp_in (a1).toInt32 (am_N h4 q8) ∧ ∃ w9, ((am_K h4 q8 = 23 ∧ w9 = ((a3).toInt8.toInt32).toInt8.toInt32) ∨ (am_K h4 q8 = 24 ∧ w9 = ((a3).toInt8.toInt32 &&& 1))) ∧
       Q ((am_A h4 q7 ((a1).toInt32).toNatClampNeg) &&& (Int32.ofNat 255)) (am_sA (am_sI h4 10 0 a0 (Int32.ofNat 2)) q8 ((a1).toInt32).toNatClampNeg w9)))))) ∧
      (¬ ((am_I (am_sI h4 10 0 a0 (Int32.ofNat 2)) 10 0 a0) ≤ (Int32.ofNat 0)) →
       Q (Int32.ofNat 0) (am_sI h4 10 0 a0 (Int32.ofNat 2))))))) ∧
     (¬ (x6 = (Int32.ofNat 0)) →
      (am_K h4 a0 = 11 ∧
      (am_K h4 a0 = 11 ∧
      (((am_I (am_sI h4 10 0 a0 (Int32.ofNat 0)) 10 0 a0) ≤ (Int32.ofNat 0) →
       (am_K h4 a0 = 11 ∧ ∃ q10, am_R h4 10 18 a0 = some q10 ∧
       ((am_K h4 q10 = 23 ∨ am_K h4 q10 = 24) ∧ vp_in (a1).toInt32 (am_N h4 q10) ∧
       (am_K h4 a0 = 11 ∧ ∃ q11, am_R h4 10 18 a0 = some q11 ∧
       (vp_in (a1).toInt32 (am_N h4 q11) ∧ ∃ w12, ((am_K h4 q11 = 23 ∧ w12 = ((a3).toInt8.toInt32).toInt8.toInt32) ∨ (am_K h4 q11 = 24 ∧ w12 = ((a3).toInt8.toInt32 &&& 1))) ∧
       Q ((am_A h4 q10 ((a1).toInt32).toNatClampNeg) &&& (Int32.ofNat 255)) (am_sA (am_sI h4 10 0 a0 (Int32.ofNat 0)) q11 ((a1).toInt32).toNatClampNeg w12)))))) ∧
      (¬ ((am_I (am_sI h4 10 0 a0 (Int32.ofNat 0)) 10 0 a0) ≤ (Int32.ofNat 0)) →
       Q (Int32.ofNat 0) (am_sI h4 10 0 a0 (Int32.ofNat 0))))))))) ∧ (∀ E13 h4, X5 E13 h4 → Qx E13 h4))) ∧
   (¬ (¬ x3 = (Int32.ofNat 0)) →
    (am_K h1 a0 = 11 ∧
    (am_K h1 a0 = 11 ∧
    (((am_I (am_sI h1 10 0 a0 (Int32.ofNat 1)) 10 0 a0) ≤ (Int32.ofNat 0) →
     (am_K h1 a0 = 11 ∧ ∃ q14, am_R h1 10 18 a0 = some q14 ∧
     ((am_K h1 q14 = 23 ∨ am_K h1 q14 = 24) ∧ vp_in (a1).toInt32 (am_N h1 q14) ∧
     (am_K h1 a0 = 11 ∧ ∃ q15, am_R h1 10 18 a0 = some q15 ∧
     (vp_in (a1).toInt32 (am_N h1 q15) ∧ ∃ w16, ((am_K h1 q15 = 23 ∧ w16 = ((a3).toInt8.toInt32).toInt8.toInt32) ∨ (am_K h1 q15 = 24 ∧ w16 = ((a3).toInt8.toInt32 &&& 1))) ∧
     Q ((am_A h1 q14 ((a1).toInt32).toNatClampNeg) &&& (Int32.ofNat 255)) (am_sA (am_sI h1 10 0 a0 (Int32.ofNat 1)) q15 ((a1).toInt32).toNatClampNeg w16)))))) ∧
    (¬ ((am_I (am_sI h1 10 0 a0 (Int32.ofNat 1)) 10 0 a0) ≤ (Int32.ofNat 0)) →
     Q (Int32.ofNat 0) (am_sI h1 10 0 a0 (Int32.ofNat 1))))))))) ∧ (∀ E17 h1, X2 E17 h1 → Qx E17 h1))) :
  am_Ev tt 150 0 [some (.ref a0), some (.long a1), none, some (.int a3), none] [] h (am_pI Q Qx) := am_vc 36 [] q

/-! 151 yX10_type -/
theorem vc_151_0 (tt : Nat → Nat) (a0 : Nat) (a1 : Int64) (a3 : Int32) (h : am_H) (Q : Int32 → am_H → Prop) (Qx : String → am_H → Prop) (q :
  (am_K h a0 = 11 ∧
  (∃ (Q2 : Int32 → am_H → Prop) (X2 : String → am_H → Prop), am_Ct tt 130 [.long (a3).toInt64, .long (Int64.ofNat 0), .long (Int64.ofNat 8)] (am_sI h 10 0 a0 (Int32.ofNat 0)) (am_pI Q2 X2) ∧ (∀ x3 h1, Q2 x3 h1 →
   ((¬ x3 = (Int32.ofNat 0) →
    ((¬ a3 = (Int32.ofNat 0) →
     am_Ev tt 151 29 [some (.ref a0), some (.long a1), none, some (.int a3), none] [] h1 (am_pI Q Qx)) ∧
    (¬ (¬ a3 = (Int32.ofNat 0)) →
     (am_K h1 a0 = 11 ∧
     am_Ev tt 151 29 [some (.ref a0), some (.long a1), none, some (.int a3), none] [] (am_sI h1 10 19 a0 (Int32.ofNat 0)) (am_pI Q Qx))))) ∧
   (¬ (¬ x3 = (Int32.ofNat 0)) →
    Q (-2 : Int32) h1))) ∧ (∀ E4 h1, X2 E4 h1 → Qx E4 h1)))) :
  am_Ev tt 151 0 [some (.ref a0), some (.long a1), none, some (.int a3), none] [] h (am_pI Q Qx) := am_vc 17 [(29, [true, true, false, true, false]), (49, [true, true, false, false, true])] q
theorem vc_151_29 (tt : Nat → Nat) (a0 : Nat) (a1 : Int64) (a3 : Int32) (h : am_H) (Q : Int32 → am_H → Prop) (Qx : String → am_H → Prop) (q :
  (am_K h a0 = 11 ∧
  ((((am_I h 10 19 a0) + a3) ≤ (Int32.ofNat 5000) →
   am_Ev tt 151 49 [some (.ref a0), some (.long a1), none, none, some (.int (a3 - (Int32.ofNat 1)))] [] h (am_pI Q Qx)) ∧
  (¬ (((am_I h 10 19 a0) + a3) ≤ (Int32.ofNat 5000)) →
   Q (-4 : Int32) h)))) :
  am_Ev tt 151 29 [some (.ref a0), some (.long a1), none, some (.int a3), none] [] h (am_pI Q Qx) := am_vc 13 [(29, [true, true, false, true, false]), (49, [true, true, false, false, true])] q
theorem vc_151_49 (tt : Nat → Nat) (a0 : Nat) (a1 : Int64) (a4 : Int32) (h : am_H) (Q : Int32 → am_H → Prop) (Qx : String → am_H → Prop) (q :
  ((a4 < (Int32.ofNat 0) →
   (am_K h a0 = 11 ∧
   Q (am_I h 10 19 a0) h)) ∧
  (¬ (a4 < (Int32.ofNat 0)) →
   (am_K h a0 = 11 ∧ ∃ q1, am_R h 10 18 a0 = some q1 ∧
   (am_K h a0 = 11 ∧
   (vp_in (am_I h 10 19 a0) (am_N h q1) ∧ ∃ w2, ((am_K h q1 = 23 ∧ w2 = ((((a1 >>> ((((Int32.ofNat 8) * a4)).toInt64 &&& 63))).toInt32).toInt8.toInt32).toInt8.toInt32) ∨ (am_K h q1 = 24 ∧ w2 = ((((a1 >>> ((((Int32.ofNat 8) * a4)).toInt64 &&& 63))).toInt32).toInt8.toInt32 &&& 1))) ∧
   (am_K h a0 = 11 ∧
   (am_K h a0 = 11 ∧
   am_Ev tt 151 49 [some (.ref a0), some (.long a1), none, none, some (.int (a4 + (-1 : Int32)))] [] (am_sI (am_sA h q1 ((am_I h 10 19 a0)).toNatClampNeg w2) 10 19 a0 ((am_I h 10 19 a0) + (Int32.ofNat 1))) (am_pI Q Qx))))))))) :
  am_Ev tt 151 49 [some (.ref a0), some (.long a1), none, none, some (.int a4)] [] h (am_pI Q Qx) := am_vc 25 [(29, [true, true, false, true, false]), (49, [true, true, false, false, true])] q

/-! 152 yX10_cut -/
theorem vc_152_0 (tt : Nat → Nat) (a0 : Nat) (a1 : Int32) (h : am_H) (Q : Int32 → am_H → Prop) (Qx : String → am_H → Prop) (q :
  (am_K h a0 = 11 ∧
  (am_K h a0 = 11 ∧
  (∃ (Q2 : Int32 → am_H → Prop) (X2 : String → am_H → Prop), am_Ct tt 130 [.long (a1).toInt64, .long (Int64.ofNat 0), .long ((am_I h 10 19 a0)).toInt64] (am_sI h 10 0 a0 (Int32.ofNat 0)) (am_pI Q2 X2) ∧ (∀ x3 h1, Q2 x3 h1 →
   ((¬ x3 = (Int32.ofNat 0) →
    (am_K h1 a0 = 11 ∧
    Q a1 (am_sI h1 10 19 a0 a1))) ∧
   (¬ (¬ x3 = (Int32.ofNat 0)) →
    Q (-2 : Int32) h1))) ∧ (∀ E4 h1, X2 E4 h1 → Qx E4 h1))))) :
  am_Ev tt 152 0 [some (.ref a0), some (.int a1)] [] h (am_pI Q Qx) := am_vc 18 [] q

/-! 155 yX10_isMeasured -/
theorem vc_155_0 (tt : Nat → Nat) (a0 : Nat) (h : am_H) (Q : Int32 → am_H → Prop) (Qx : String → am_H → Prop) (q :
  (am_K h a0 = 11 ∧ ∃ (Q2 : Int64 → am_H → Prop) (X2 : String → am_H → Prop), am_Ct tt 153 [.ref a0, .int (Int32.ofNat 12), .int (Int32.ofNat 8)] h (am_pL Q2 X2) ∧ (∀ x3 h1, Q2 x3 h1 →
   (am_K h1 a0 = 11 ∧ ∃ (Q5 : Int64 → am_H → Prop) (X5 : String → am_H → Prop), am_Ct tt 153 [.ref a0, .int (Int32.ofNat 20), .int (Int32.ofNat 8)] h1 (am_pL Q5 X5) ∧ (∀ x6 h4, Q5 x6 h4 →
    (∃ (Q8 : Int32 → am_H → Prop) (X8 : String → am_H → Prop), am_Ct tt 130 [.long x3, .long (Int64.ofNat 0), .long (Int64.ofNat 5000)] h4 (am_pI Q8 X8) ∧ (∀ x9 h7, Q8 x9 h7 →
     ((x9 = (Int32.ofNat 0) →
      (((Int32.ofNat 0) = (Int32.ofNat 0) ∨ (Int32.ofNat 0) = (Int32.ofNat 1)) ∧ Q (Int32.ofNat 0) h7)) ∧
     (¬ (x9 = (Int32.ofNat 0)) →
      (∃ (Q11 : Int32 → am_H → Prop) (X11 : String → am_H → Prop), am_Ct tt 130 [.long x6, .long (Int64.ofNat 0), .long (Int64.ofNat 5000)] h7 (am_pI Q11 X11) ∧ (∀ x12 h10, Q11 x12 h10 →
       ((x12 = (Int32.ofNat 0) →
        (((Int32.ofNat 0) = (Int32.ofNat 0) ∨ (Int32.ofNat 0) = (Int32.ofNat 1)) ∧ Q (Int32.ofNat 0) h10)) ∧
       (¬ (x12 = (Int32.ofNat 0)) →
        (am_K h10 a0 = 11 ∧
        ((¬ (lg_cmp (((Int64.ofNat 32) + x3) + x6) ((am_I h10 10 19 a0)).toInt64) = (Int32.ofNat 0) →
         (((Int32.ofNat 0) = (Int32.ofNat 0) ∨ (Int32.ofNat 0) = (Int32.ofNat 1)) ∧ Q (Int32.ofNat 0) h10)) ∧
        (¬ (¬ (lg_cmp (((Int64.ofNat 32) + x3) + x6) ((am_I h10 10 19 a0)).toInt64) = (Int32.ofNat 0)) →
         (((Int32.ofNat 1) = (Int32.ofNat 0) ∨ (Int32.ofNat 1) = (Int32.ofNat 1)) ∧ Q (Int32.ofNat 1) h10))))))) ∧ (∀ E13 h10, X11 E13 h10 → Qx E13 h10))))) ∧ (∀ E14 h7, X8 E14 h7 → Qx E14 h7))) ∧ (∀ E15 h4, X5 E15 h4 → Qx E15 h4))) ∧ (∀ E16 h1, X2 E16 h1 → Qx E16 h1))) :
  am_Ev tt 155 0 [some (.ref a0), none, none, none, none] [] h (am_pI Q Qx) := am_vc 35 [] q

/-! 156 yX10_seal -/
theorem vc_156_0 (tt : Nat → Nat) (a0 : Nat) (a1 : Int32) (h : am_H) (Q : Int32 → am_H → Prop) (Qx : String → am_H → Prop) (q :
  (am_K h a0 = 11 ∧
  (∃ (Q2 : Int32 → am_H → Prop) (X2 : String → am_H → Prop), am_Ct tt 130 [.long (a1).toInt64, .long (Int64.ofNat 0), .long (Int64.ofNat 1)] (am_sI h 10 0 a0 (Int32.ofNat 0)) (am_pI Q2 X2) ∧ (∀ x3 h1, Q2 x3 h1 →
   ((¬ x3 = (Int32.ofNat 0) →
    (am_K h1 a0 = 11 ∧
    (((am_I h1 10 19 a0) < (Int32.ofNat 32) →
     am_Ev tt 156 39 [none, none, none] [] h1 (am_pI Q Qx)) ∧
    (¬ ((am_I h1 10 19 a0) < (Int32.ofNat 32)) →
     ((¬ a1 = (Int32.ofNat 1) →
      am_Ev tt 156 42 [some (.ref a0), some (.int a1), none] [] h1 (am_pI Q Qx)) ∧
     (¬ (¬ a1 = (Int32.ofNat 1)) →
      (am_K h1 a0 = 11 ∧ ∃ (Q5 : Int32 → am_H → Prop) (X5 : String → am_H → Prop), am_Ct tt 155 [.ref a0] h1 (am_pI Q5 X5) ∧ (∀ x6 h4, Q5 x6 h4 →
       ((¬ x6 = (Int32.ofNat 0) →
        am_Ev tt 156 42 [some (.ref a0), some (.int a1), none] [] h4 (am_pI Q Qx)) ∧
       (¬ (¬ x6 = (Int32.ofNat 0)) →
        am_Ev tt 156 39 [none, none, none] [] h4 (am_pI Q Qx)))) ∧ (∀ E7 h4, X5 E7 h4 → Qx E7 h4)))))))) ∧
   (¬ (¬ x3 = (Int32.ofNat 0)) →
    Q (-2 : Int32) h1))) ∧ (∀ E8 h1, X2 E8 h1 → Qx E8 h1)))) :
  am_Ev tt 156 0 [some (.ref a0), some (.int a1), none] [] h (am_pI Q Qx) := am_vc 22 [(39, [false, false, false]), (42, [true, true, false]), (79, [true, false, false])] q
theorem vc_156_39 (tt : Nat → Nat)  (h : am_H) (Q : Int32 → am_H → Prop) (Qx : String → am_H → Prop) (q :
  Q (-3 : Int32) h) :
  am_Ev tt 156 39 [none, none, none] [] h (am_pI Q Qx) := am_vc 4 [(39, [false, false, false]), (42, [true, true, false]), (79, [true, false, false])] q
theorem vc_156_42 (tt : Nat → Nat) (a0 : Nat) (a1 : Int32) (h : am_H) (Q : Int32 → am_H → Prop) (Qx : String → am_H → Prop) (q :
  ((¬ a1 = (Int32.ofNat 1) →
   am_Ev tt 156 79 [some (.ref a0), none, none] [] h (am_pI Q Qx)) ∧
  (¬ (¬ a1 = (Int32.ofNat 1)) →
   (am_K h a0 = 11 ∧ ∃ (Q2 : Int64 → am_H → Prop) (X2 : String → am_H → Prop), am_Ct tt 153 [.ref a0, .int (Int32.ofNat 20), .int (Int32.ofNat 8)] h (am_pL Q2 X2) ∧ (∀ x3 h1, Q2 x3 h1 →
    (am_K h1 a0 = 11 ∧ ∃ q4, am_R h1 10 18 a0 = some q4 ∧
    (am_K h1 a0 = 11 ∧
    (∃ (Q6 : Int32 → am_H → Prop) (X6 : String → am_H → Prop), am_Ct tt 131 [.ref q4, .int ((am_I h1 10 19 a0) - (x3).toInt32), .int (x3).toInt32] h1 (am_pI Q6 X6) ∧ (∀ x7 h5, Q6 x7 h5 →
     (am_K h5 a0 = 11 ∧ ∃ (Q9 : am_H → Prop) (X9 : String → am_H → Prop), am_Ct tt 154 [.ref a0, .int (Int32.ofNat 28), .long (x7).toInt64, .int (Int32.ofNat 4)] h5 (am_pV Q9 X9) ∧ (∀ h8, Q9 h8 →
      am_Ev tt 156 79 [some (.ref a0), none, none] [] h8 (am_pI Q Qx)) ∧ (∀ E10 h8, X9 E10 h8 → Qx E10 h8))) ∧ (∀ E11 h5, X6 E11 h5 → Qx E11 h5))))) ∧ (∀ E12 h1, X2 E12 h1 → Qx E12 h1))))) :
  am_Ev tt 156 42 [some (.ref a0), some (.int a1), none] [] h (am_pI Q Qx) := am_vc 25 [(39, [false, false, false]), (42, [true, true, false]), (79, [true, false, false])] q
theorem vc_156_79 (tt : Nat → Nat) (a0 : Nat) (h : am_H) (Q : Int32 → am_H → Prop) (Qx : String → am_H → Prop) (q :
  (am_K h a0 = 11 ∧ ∃ q1, am_R h 10 18 a0 = some q1 ∧
  (∃ (Q3 : Int32 → am_H → Prop) (X3 : String → am_H → Prop), am_Ct tt 131 [.ref q1, .int (Int32.ofNat 12), .int (Int32.ofNat 20)] h (am_pI Q3 X3) ∧ (∀ x4 h2, Q3 x4 h2 →
   (am_K h2 a0 = 11 ∧ ∃ (Q6 : am_H → Prop) (X6 : String → am_H → Prop), am_Ct tt 154 [.ref a0, .int (Int32.ofNat 8), .long (x4).toInt64, .int (Int32.ofNat 4)] h2 (am_pV Q6 X6) ∧ (∀ h5, Q6 h5 →
    Q (Int32.ofNat 1) h5) ∧ (∀ E7 h5, X6 E7 h5 → Qx E7 h5))) ∧ (∀ E8 h2, X3 E8 h2 → Qx E8 h2)))) :
  am_Ev tt 156 79 [some (.ref a0), none, none] [] h (am_pI Q Qx) := am_vc 14 [(39, [false, false, false]), (42, [true, true, false]), (79, [true, false, false])] q

/-! 157 yX10_count -/
theorem vc_157_0 (tt : Nat → Nat) (a0 : Nat) (a1 : Int32) (h : am_H) (Q : Int32 → am_H → Prop) (Qx : String → am_H → Prop) (q :
  (am_K h a0 = 11 ∧
  ((¬ a1 = (Int32.ofNat 0) →
   ((¬ a1 = (Int32.ofNat 1) →
    Q (-2 : Int32) (am_sI h 10 0 a0 (Int32.ofNat 0))) ∧
   (¬ (¬ a1 = (Int32.ofNat 1)) →
    (am_K h a0 = 11 ∧
    Q (am_I h 10 19 a0) (am_sI h 10 0 a0 (Int32.ofNat 0)))))) ∧
  (¬ (¬ a1 = (Int32.ofNat 0)) →
   (am_K h a0 = 11 ∧
   Q (am_I h 10 1 a0) (am_sI h 10 0 a0 (Int32.ofNat 0))))))) :
  am_Ev tt 157 0 [some (.ref a0), some (.int a1)] [] h (am_pI Q Qx) := am_vc 14 [] q

/-! 158 yX10_fault -/
theorem vc_158_0 (tt : Nat → Nat) (a0 : Nat) (h : am_H) (Q : Int32 → am_H → Prop) (Qx : String → am_H → Prop) (q :
  (am_K h a0 = 11 ∧
  (am_K h a0 = 11 ∧
  Q (am_I h 10 20 a0) (am_sI h 10 0 a0 (Int32.ofNat 0))))) :
  am_Ev tt 158 0 [some (.ref a0)] [] h (am_pI Q Qx) := am_vc 8 [] q

section MF
variable {tt : Nat → Nat} {P : Nat → Prop} {h h' h'' : am_H} {m : Nat} {ad : Nat → Nat} {S : sS}
theorem ct_mthrown (hK : am_K h m = 11) {v : Int32} (hv : am_I h 10 0 m = v) : am_Ct tt 129 [.ref m] h (am_pI (fun r h' => r = v ∧ h' = h) no_x) := by
  refine vc_129_0 tt _ h _ _ ?_
  rw [hv]
  exact ⟨hK, rfl, rfl⟩
theorem ct_mfault (q : RM P h m ad S) : am_Ct tt 158 [.ref m] h (am_pI (fun r h' => r = S.2.2.2 ∧ okM P h m ad S h') no_x) :=
  vc_158_0 tt _ h _ _ ⟨q.1.1, q.1.1, q.2.2.2.2.2.2.1, q.th _⟩
theorem ct_mcount (q : RM P h m ad S) {x : Int32} : am_Ct tt 157 [.ref m, .int x] h (am_pI (fun r h' => r = f_count S x ∧ okM P h m ad S h') no_x) := by
  refine vc_157_0 tt _ _ h _ _ ?_
  simp only [q.1.1, q.2.1, q.2.2.2.2.1, f_count, true_and, and_true, and_self, true_or, or_true, false_or, or_false, false_and, and_false, not_true_eq_false, not_false_eq_true, Classical.not_not, true_implies, false_implies, implies_true, exists_eq_left, exists_eq_left', Option.some.injEq, reduceIte, Nat.reduceEqDiff, Nat.reduceLT, Nat.reduceLeDiff, Nat.reduceAdd, Nat.reduceSub, Nat.reduceMul, eq_self, ne_eq, and_imp, forall_const, reduceCtorEq, am_w, List.map_cons, List.map_nil, List.sum_cons, List.sum_nil, Value.category, Nat.zero_le, Nat.le_refl]
  refine ⟨fun z => ⟨fun z2 => ⟨by rw [if_neg z, if_neg z2], q.th _⟩, fun z2 => ⟨?_, q.th _⟩⟩, fun z => ⟨?_, q.th _⟩⟩
  · rw [if_neg z, if_pos z2]
  · rw [if_pos z]
theorem ct_mclear (q : RM P h m ad S) (wf : wfS S) : am_Ct tt 147 [.ref m] h (am_pI (fun r h' => r = (f_clear S).1 ∧ okM P h m ad (f_clear S).2 h') no_x) := by
  have s := q.1
  have key : ∀ (d b : Nat) (k : am_H), d + b = 6 → mfr h m ad k → am_I k 10 1 m = Int32.ofNat 0 → am_I k 10 19 m = Int32.ofNat S.2.1 → am_I k 10 20 m = S.2.2.2 → (∀ t, ¬ t = 14 → ¬ t = 17 → am_A k (ad t) = am_A h (ad t)) → (∀ j, j < b → am_A k (ad 14) j = Int32.ofNat 0 ∧ am_A k (ad 17) j = Int32.ofNat 0) →
      am_Ev tt 147 17 [some (.ref m), some (.int (Int32.ofNat (a_n S.1))), some (.int (Int32.ofNat b))] [] k (am_pI (fun r h' => r = (f_clear S).1 ∧ okM P h m ad (f_clear S).2 h') no_x) := by
    intro d
    induction d with
    | zero =>
      intro b k e p p1 p2 p3 p4 p5
      have : b = 6 := by omega
      subst this
      refine vc_147_17 tt _ _ _ _ _ _ ?_
      simp (disch := omega) only [qi_lt, qi_le, qi_eq, qi_nn, qi_in, qi_add, qi_l, ql_i, ql_lt, ql_le, ql_eq, ql_add, qc_lt, qc_eq, qc_ge, qc_gt, qc_le, true_and, and_true, and_self, true_or, or_true, false_or, or_false, false_and, and_false, not_true_eq_false, not_false_eq_true, Classical.not_not, true_implies, false_implies, implies_true, exists_eq_left, exists_eq_left', Option.some.injEq, reduceIte, Nat.reduceEqDiff, Nat.reduceLT, Nat.reduceLeDiff, Nat.reduceAdd, Nat.reduceSub, Nat.reduceMul, eq_self, ne_eq, and_imp, forall_const, reduceCtorEq, am_w, List.map_cons, List.map_nil, List.sum_cons, List.sum_nil, Value.category, Nat.zero_le, Nat.le_refl]
      refine ⟨rfl, RM.mk' q p p1 (fun i hi => absurd hi (Nat.not_lt_zero i)) (fun b hb => ⟨(p5 b hb).2, fun _ => ⟨(p5 b hb).1, fun j hj => absurd hj (Nat.not_lt_zero j)⟩, fun _ => (p5 b hb).1⟩) p2 (fun j hj => by rw [p4 18 (by omega) (by omega)]; exact q.2.2.2.2.2.1 j hj) p3⟩
    | succ d ih =>
      intro b k e p p1 p2 p3 p4 p5
      have sk := p.md s
      have hb : b < 6 := by omega
      refine vc_147_17 tt _ _ _ _ _ _ ?_
      simp (disch := omega) only [sk.1, md_f sk, hb, z_1, am_hs, qi_lt, qi_le, qi_eq, qi_nn, qi_in, qi_add, qi_l, ql_i, ql_lt, ql_le, ql_eq, ql_add, qc_lt, qc_eq, qc_ge, qc_gt, qc_le, true_and, and_true, and_self, true_or, or_true, false_or, or_false, false_and, and_false, not_true_eq_false, not_false_eq_true, Classical.not_not, true_implies, false_implies, implies_true, exists_eq_left, exists_eq_left', Option.some.injEq, reduceIte, Nat.reduceEqDiff, Nat.reduceLT, Nat.reduceLeDiff, Nat.reduceAdd, Nat.reduceSub, Nat.reduceMul, eq_self, ne_eq, and_imp, forall_const, reduceCtorEq, am_w, List.map_cons, List.map_nil, List.sum_cons, List.sum_nil, Value.category, Nat.zero_le, Nat.le_refl]
      refine ⟨fun z => by omega, fun _ => ?_⟩
      refine ih (b + 1) _ (by omega) ((p.tr mfr.sA).tr mfr.sA) p1 p2 p3 (fun t t1 t2 => ?_) (fun j hj => ?_)
      · rw [← p4 t t1 t2]
        funext j
        simp only [am_hs, md_i sk]
        rw [if_neg (fun z => t2 z.1), if_neg (fun z => t1 z.1)]
      · simp only [am_hs, md_i sk, true_and, and_true, and_self, true_or, or_true, false_or, or_false, false_and, and_false, not_true_eq_false, not_false_eq_true, Classical.not_not, true_implies, false_implies, implies_true, exists_eq_left, exists_eq_left', Option.some.injEq, reduceIte, Nat.reduceEqDiff, Nat.reduceLT, Nat.reduceLeDiff, Nat.reduceAdd, Nat.reduceSub, Nat.reduceMul, eq_self, ne_eq, and_imp, forall_const, reduceCtorEq, am_w, List.map_cons, List.map_nil, List.sum_cons, List.sum_nil, Value.category, Nat.zero_le, Nat.le_refl]
        by_cases c : j = b
        · simp only [c, true_and, and_true, and_self, true_or, or_true, false_or, or_false, false_and, and_false, not_true_eq_false, not_false_eq_true, Classical.not_not, true_implies, false_implies, implies_true, exists_eq_left, exists_eq_left', Option.some.injEq, reduceIte, Nat.reduceEqDiff, Nat.reduceLT, Nat.reduceLeDiff, Nat.reduceAdd, Nat.reduceSub, Nat.reduceMul, eq_self, ne_eq, and_imp, forall_const, reduceCtorEq, am_w, List.map_cons, List.map_nil, List.sum_cons, List.sum_nil, Value.category, Nat.zero_le, Nat.le_refl]
        · simp only [c, true_and, and_true, and_self, true_or, or_true, false_or, or_false, false_and, and_false, not_true_eq_false, not_false_eq_true, Classical.not_not, true_implies, false_implies, implies_true, exists_eq_left, exists_eq_left', Option.some.injEq, reduceIte, Nat.reduceEqDiff, Nat.reduceLT, Nat.reduceLeDiff, Nat.reduceAdd, Nat.reduceSub, Nat.reduceMul, eq_self, ne_eq, and_imp, forall_const, reduceCtorEq, am_w, List.map_cons, List.map_nil, List.sum_cons, List.sum_nil, Value.category, Nat.zero_le, Nat.le_refl]
          exact p5 j (by omega)
  refine vc_147_0 tt _ h _ _ ⟨s.1, s.1, s.1, ?_⟩
  rw [q.2.1]
  exact key 6 0 _ (by omega) (mfr.sI.tr mfr.sI) (by simp only [am_hs, true_and, and_true, and_self, true_or, or_true, false_or, or_false, false_and, and_false, not_true_eq_false, not_false_eq_true, Classical.not_not, true_implies, false_implies, implies_true, exists_eq_left, exists_eq_left', Option.some.injEq, reduceIte, Nat.reduceEqDiff, Nat.reduceLT, Nat.reduceLeDiff, Nat.reduceAdd, Nat.reduceSub, Nat.reduceMul, eq_self, ne_eq, and_imp, forall_const, reduceCtorEq, am_w, List.map_cons, List.map_nil, List.sum_cons, List.sum_nil, Value.category, Nat.zero_le, Nat.le_refl]) (by simp only [am_hs, true_and, and_true, and_self, true_or, or_true, false_or, or_false, false_and, and_false, not_true_eq_false, not_false_eq_true, Classical.not_not, true_implies, false_implies, implies_true, exists_eq_left, exists_eq_left', Option.some.injEq, reduceIte, Nat.reduceEqDiff, Nat.reduceLT, Nat.reduceLeDiff, Nat.reduceAdd, Nat.reduceSub, Nat.reduceMul, eq_self, ne_eq, and_imp, forall_const, reduceCtorEq, am_w, List.map_cons, List.map_nil, List.sum_cons, List.sum_nil, Value.category, Nat.zero_le, Nat.le_refl]; exact q.2.2.2.2.1) (by simp only [am_hs, true_and, and_true, and_self, true_or, or_true, false_or, or_false, false_and, and_false, not_true_eq_false, not_false_eq_true, Classical.not_not, true_implies, false_implies, implies_true, exists_eq_left, exists_eq_left', Option.some.injEq, reduceIte, Nat.reduceEqDiff, Nat.reduceLT, Nat.reduceLeDiff, Nat.reduceAdd, Nat.reduceSub, Nat.reduceMul, eq_self, ne_eq, and_imp, forall_const, reduceCtorEq, am_w, List.map_cons, List.map_nil, List.sum_cons, List.sum_nil, Value.category, Nat.zero_le, Nat.le_refl]; exact q.2.2.2.2.2.2.1) (fun _ _ _ => rfl) (fun j hj => absurd hj (Nat.not_lt_zero j))
theorem in_by {i : Int64} {n : Nat} (hn : n ≤ 60000) : (Int64.ofNat 0 ≤ i ∧ i ≤ (Int32.ofNat n).toInt64 - Int64.ofNat 1) = (¬ i < Int64.ofNat 0 ∧ i < Int64.ofNat n) := by
  have e : ((Int32.ofNat n).toInt64 - Int64.ofNat 1).toInt = (n : Int) - 1 := by
    rw [qi_l (by omega), Int64.toInt_sub, Int64.toInt_ofNat_of_lt (by omega), show (Int64.ofNat 1).toInt = 1 from rfl]
    exact Int.bmod_eq_of_le (by omega) (by omega)
  rw [Int64.le_iff_toInt_le, Int64.le_iff_toInt_le, Int64.lt_iff_toInt_lt, Int64.lt_iff_toInt_lt, e, Int64.toInt_ofNat_of_lt (n := n) (by omega), show (Int64.ofNat 0).toInt = 0 from rfl]
  exact propext (by omega)
theorem ct_isByte {i : Int64} (hK : am_K h m = 11) (h19 : am_I h 10 19 m = Int32.ofNat S.2.1) (hn : S.2.1 ≤ 5000) : am_Ct tt 148 [.ref m, .long i] h (am_pI (fun r h' => h' = h ∧ r = b01 (inT S i)) no_x) := by
  refine vc_148_0 tt _ _ h _ _ ⟨hK, _, _, ct_in, fun r k e => ?_, fun _ _ z => z⟩
  obtain ⟨ek, e⟩ := e
  subst k
  rw [h19] at e
  simp only [in_by (show S.2.1 ≤ 60000 by omega)] at e
  have : (if ¬ i < Int64.ofNat 0 ∧ i < Int64.ofNat S.2.1 then Int32.ofNat 1 else Int32.ofNat 0) = b01 (inT S i) := by
    unfold inT b01
    simp only [decide_eq_true_iff]
  rw [this] at e
  subst e
  exact ⟨b01_01, rfl, rfl⟩
theorem ct_mpeek (q : RM P h m ad S) (wf : wfS S) {i : Int64} : am_Ct tt 149 [.ref m, .long i] h (am_pI (fun r h' => okM P h m ad S h' ∧ ((inT S i = true ∧ r = S.2.2.1 i.toNatClampNeg &&& Int32.ofNat 255 ∧ am_I h' 10 0 m = Int32.ofNat 0) ∨ (inT S i = false ∧ am_I h' 10 0 m = Int32.ofNat 1))) no_x) := by
  have s := q.1
  have n5 := wf.2.1
  refine vc_149_0 tt _ _ h _ _ ⟨s.1, _, _, ct_isByte s.1 q.2.2.2.2.1 n5, fun r k e => ?_, fun _ _ z => z⟩
  obtain ⟨ek, e⟩ := e
  subst k e
  have c1 : ¬ Int32.ofNat 1 ≤ Int32.ofNat 0 := by decide
  cases c : inT S i with
  | false =>
    refine ⟨fun _ => ⟨s.1, s.1, ?_⟩, fun w => absurd rfl w⟩
    simp only [am_hs, c1, true_and, and_true, and_self, true_or, or_true, false_or, or_false, false_and, and_false, not_true_eq_false, not_false_eq_true, Classical.not_not, true_implies, false_implies, implies_true, exists_eq_left, exists_eq_left', Option.some.injEq, reduceIte, Nat.reduceEqDiff, Nat.reduceLT, Nat.reduceLeDiff, Nat.reduceAdd, Nat.reduceSub, Nat.reduceMul, eq_self, ne_eq, and_imp, forall_const, reduceCtorEq, am_w, List.map_cons, List.map_nil, List.sum_cons, List.sum_nil, Value.category, Nat.zero_le, Nat.le_refl]
    exact q.th _
  | true =>
    refine ⟨fun w => absurd w (by decide), fun _ => ⟨s.1, s.1, ?_⟩⟩
    obtain ⟨k, hk, rfl⟩ := inT_t c n5
    have kn : (Int64.ofNat k).toNatClampNeg = k := Int64.toNatClampNeg_ofNat_of_lt (by omega)
    have k5 : k < 5000 := by omega
    simp (disch := omega) only [s.1, md_f s, kn, k5, am_hs, qi_lt, qi_le, qi_eq, qi_nn, qi_in, qi_add, qi_l, ql_i, ql_lt, ql_le, ql_eq, ql_add, qc_lt, qc_eq, qc_ge, qc_gt, qc_le, true_and, and_true, and_self, true_or, or_true, false_or, or_false, false_and, and_false, not_true_eq_false, not_false_eq_true, Classical.not_not, true_implies, false_implies, implies_true, exists_eq_left, exists_eq_left', Option.some.injEq, reduceIte, Nat.reduceEqDiff, Nat.reduceLT, Nat.reduceLeDiff, Nat.reduceAdd, Nat.reduceSub, Nat.reduceMul, eq_self, ne_eq, and_imp, forall_const, reduceCtorEq, am_w, List.map_cons, List.map_nil, List.sum_cons, List.sum_nil, Value.category, Nat.zero_le, Nat.le_refl]
    exact ⟨q.th _, by rw [q.2.2.2.2.2.1 k hk]⟩
theorem ct_mpoke (q : RM P h m ad S) (wf : wfS S) {i : Int64} {v : Int32} : am_Ct tt 150 [.ref m, .long i, .int v] h (am_pI (fun r h' => (inT S i = true ∧ ¬ v < Int32.ofNat 0 ∧ v ≤ Int32.ofNat 255 ∧ r = S.2.2.1 i.toNatClampNeg &&& Int32.ofNat 255 ∧ am_I h' 10 0 m = Int32.ofNat 0 ∧ okM P h m ad (f_poke S i v) h') ∨ (inT S i = false ∧ am_I h' 10 0 m = Int32.ofNat 1 ∧ okM P h m ad S h') ∨ (inT S i = true ∧ (v < Int32.ofNat 0 ∨ ¬ v ≤ Int32.ofNat 255) ∧ am_I h' 10 0 m = Int32.ofNat 2 ∧ okM P h m ad S h')) no_x) := by
  have s := q.1
  have n5 := wf.2.1
  refine vc_150_0 tt _ _ _ h _ _ ⟨s.1, _, _, ct_isByte s.1 q.2.2.2.2.1 n5, fun r k e => ?_, fun _ _ z => z⟩
  obtain ⟨ek, e⟩ := e
  subst k e
  have c1 : ¬ Int32.ofNat 1 ≤ Int32.ofNat 0 := by decide
  have c2 : ¬ Int32.ofNat 2 ≤ Int32.ofNat 0 := by decide
  cases c : inT S i with
  | false =>
    refine ⟨fun w => absurd rfl w, fun _ => ⟨s.1, s.1, ?_⟩⟩
    simp only [am_hs, c1, true_and, and_true, and_self, true_or, or_true, false_or, or_false, false_and, and_false, not_true_eq_false, not_false_eq_true, Classical.not_not, true_implies, false_implies, implies_true, exists_eq_left, exists_eq_left', Option.some.injEq, reduceIte, Nat.reduceEqDiff, Nat.reduceLT, Nat.reduceLeDiff, Nat.reduceAdd, Nat.reduceSub, Nat.reduceMul, eq_self, ne_eq, and_imp, forall_const, reduceCtorEq, am_w, List.map_cons, List.map_nil, List.sum_cons, List.sum_nil, Value.category, Nat.zero_le, Nat.le_refl]
    exact q.th _
  | true =>
    refine ⟨fun _ => ⟨_, _, ct_in, fun r k e => ?_, fun _ _ z => z⟩, fun w => absurd (show ¬ b01 true = Int32.ofNat 0 by decide) w⟩
    obtain ⟨ek, e⟩ := e
    subst k e
    simp (disch := omega) only [in_lu]
    obtain ⟨k, hk, rfl⟩ := inT_t c n5
    have kn : (Int64.ofNat k).toNatClampNeg = k := Int64.toNatClampNeg_ofNat_of_lt (by omega)
    have k5 : k < 5000 := by omega
    by_cases cv : ¬ v < Int32.ofNat 0 ∧ ¬ Int32.ofNat 255 < v
    · rw [if_pos cv]
      refine ⟨fun w => absurd w (by decide), fun _ => ⟨s.1, s.1, ?_⟩⟩
      simp (disch := omega) only [s.1, md_f s, md_i s, kn, k5, am_hs, qi_lt, qi_le, qi_eq, qi_nn, qi_in, qi_add, qi_l, ql_i, ql_lt, ql_le, ql_eq, ql_add, qc_lt, qc_eq, qc_ge, qc_gt, qc_le, true_and, and_true, and_self, true_or, or_true, false_or, or_false, false_and, and_false, not_true_eq_false, not_false_eq_true, Classical.not_not, true_implies, false_implies, implies_true, exists_eq_left, exists_eq_left', Option.some.injEq, reduceIte, Nat.reduceEqDiff, Nat.reduceLT, Nat.reduceLeDiff, Nat.reduceAdd, Nat.reduceSub, Nat.reduceMul, eq_self, ne_eq, and_imp, forall_const, reduceCtorEq, am_w, List.map_cons, List.map_nil, List.sum_cons, List.sum_nil, Value.category, Nat.zero_le, Nat.le_refl]
      have cv2 : v ≤ Int32.ofNat 255 := Int32.not_lt.1 cv.2
      simp only [cv.1, cv2, true_and, and_true, and_self, true_or, or_true, false_or, or_false, false_and, and_false, not_true_eq_false, not_false_eq_true, Classical.not_not, true_implies, false_implies, implies_true, exists_eq_left, exists_eq_left', Option.some.injEq, reduceIte, Nat.reduceEqDiff, Nat.reduceLT, Nat.reduceLeDiff, Nat.reduceAdd, Nat.reduceSub, Nat.reduceMul, eq_self, ne_eq, and_imp, forall_const, reduceCtorEq, am_w, List.map_cons, List.map_nil, List.sum_cons, List.sum_nil, Value.category, Nat.zero_le, Nat.le_refl]
      refine ⟨by rw [q.2.2.2.2.2.1 k hk], ?_⟩
      rw [q8_8]
      unfold f_poke
      rw [kn]
      refine (q.th (Int32.ofNat 0)).tr ?_
      refine (q.th (Int32.ofNat 0)).1.upT wf mfr.sA (fun f _ _ => rfl) (fun k z => ?_) rfl (q.th (Int32.ofNat 0)).1.2.2.2.2.1 (fun j hj => ?_)
      · funext j
        simp only [am_hs, md_i s]
        rw [if_neg (fun w => z w.1)]
      · simp only [am_hs, true_and, and_true, and_self, true_or, or_true, false_or, or_false, false_and, and_false, not_true_eq_false, not_false_eq_true, Classical.not_not, true_implies, false_implies, implies_true, exists_eq_left, exists_eq_left', Option.some.injEq, reduceIte, Nat.reduceEqDiff, Nat.reduceLT, Nat.reduceLeDiff, Nat.reduceAdd, Nat.reduceSub, Nat.reduceMul, eq_self, ne_eq, and_imp, forall_const, reduceCtorEq, am_w, List.map_cons, List.map_nil, List.sum_cons, List.sum_nil, Value.category, Nat.zero_le, Nat.le_refl, va_up]
        split
        · rfl
        · exact q.2.2.2.2.2.1 j hj
    · rw [if_neg cv]
      refine ⟨fun _ => ⟨s.1, s.1, ?_⟩, fun w => absurd rfl w⟩
      simp only [am_hs, c2, true_and, and_true, and_self, true_or, or_true, false_or, or_false, false_and, and_false, not_true_eq_false, not_false_eq_true, Classical.not_not, true_implies, false_implies, implies_true, exists_eq_left, exists_eq_left', Option.some.injEq, reduceIte, Nat.reduceEqDiff, Nat.reduceLT, Nat.reduceLeDiff, Nat.reduceAdd, Nat.reduceSub, Nat.reduceMul, eq_self, ne_eq, and_imp, forall_const, reduceCtorEq, am_w, List.map_cons, List.map_nil, List.sum_cons, List.sum_nil, Value.category, Nat.zero_le, Nat.le_refl]
      refine Or.inr ⟨?_, q.th _⟩
      rcases Classical.not_and_iff_not_or_not.1 cv with z | z
      · exact Or.inl (Classical.not_not.1 z)
      · exact Or.inr (Int32.not_le.2 (Classical.not_not.1 z))
theorem ct_mcut (q : RM P h m ad S) (wf : wfS S) {x : Int32} : am_Ct tt 152 [.ref m, .int x] h (am_pI (fun r h' => r = (f_cut S x).1 ∧ okM P h m ad (f_cut S x).2 h') no_x) := by
  have q0 := q.th (Int32.ofNat 0)
  have s := q.1
  have n5 := wf.2.1
  refine vc_152_0 tt _ _ h _ _ ⟨s.1, s.1, _, _, ct_inN (n := S.2.1 + 1) (by omega) (Or.inr ⟨by omega, by rw [q.2.2.2.2.1, qi_l (by omega), Nat.add_sub_cancel]⟩), fun r k e => ?_, fun _ _ z => z⟩
  obtain ⟨ek, e⟩ := e
  subst k e
  generalize am_sI h 10 0 m (Int32.ofNat 0) = h1 at q0 ⊢
  unfold f_cut
  cases ex : ixo (S.2.1 + 1) x with
  | none => exact ⟨fun w => absurd rfl w, fun _ => ⟨rfl, q0⟩⟩
  | some i =>
    obtain ⟨hi, rfl⟩ := ixo_o ex
    refine ⟨fun _ => ⟨q0.1.1.1, rfl, q0.tr ?_⟩, fun w => absurd (show ¬ b01 true = Int32.ofNat 0 by decide) w⟩
    refine q0.1.upT wf mfr.sI (fun f _ z => ?_) (fun _ _ => rfl) rfl (by simp only [am_hs, true_and, and_true, and_self, true_or, or_true, false_or, or_false, false_and, and_false, not_true_eq_false, not_false_eq_true, Classical.not_not, true_implies, false_implies, implies_true, exists_eq_left, exists_eq_left', Option.some.injEq, reduceIte, Nat.reduceEqDiff, Nat.reduceLT, Nat.reduceLeDiff, Nat.reduceAdd, Nat.reduceSub, Nat.reduceMul, eq_self, ne_eq, and_imp, forall_const, reduceCtorEq, am_w, List.map_cons, List.map_nil, List.sum_cons, List.sum_nil, Value.category, Nat.zero_le, Nat.le_refl]) (fun j hj => q0.1.2.2.2.2.2.1 j (by omega))
    simp only [am_hs]
    rw [if_neg (fun w => z w.2.1)]
theorem ct_mtype (q : RM P h m ad S) (wf : wfS S) {w : Int64} {x : Int32} : am_Ct tt 151 [.ref m, .long w, .int x] h (am_pI (fun r h' => r = (f_type S w x).1 ∧ okM P h m ad (f_type S w x).2 h') no_x) := by
  have q0 := q.th (Int32.ofNat 0)
  have s := q.1
  have n5 := wf.2.1
  refine vc_151_0 tt _ _ _ h _ _ ⟨s.1, _, _, ct_inN (n := 9) (by omega) (Or.inr ⟨by omega, rfl⟩), fun r k e => ?_, fun _ _ z => z⟩
  obtain ⟨ek, e⟩ := e
  subst k e
  generalize am_sI h 10 0 m (Int32.ofNat 0) = h1 at q0 ⊢
  have q1 := q0.1
  have s1 := q1.1
  have key : ∀ (l n0 : Nat), n0 + l ≤ 5000 → l ≤ 8 → ∀ (d c : Nat) (k : am_H) (Q : Int32 → am_H → Prop), d + c = l → mfr h1 m ad k → (∀ f, ¬ f = 19 → am_I k 10 f m = am_I h1 10 f m) → am_I k 10 19 m = Int32.ofNat (n0 + c) → am_B k = am_B h1 → (∀ t, ¬ t = 18 → am_A k (ad t) = am_A h1 (ad t)) → (∀ p, am_A k (ad 18) p = if n0 ≤ p ∧ p < n0 + c then lb w (l - 1 - (p - n0)) else am_A h1 (ad 18) p) →
      (∀ k', mfr h1 m ad k' → (∀ f, ¬ f = 19 → am_I k' 10 f m = am_I h1 10 f m) → am_I k' 10 19 m = Int32.ofNat (n0 + l) → am_B k' = am_B h1 → (∀ t, ¬ t = 18 → am_A k' (ad t) = am_A h1 (ad t)) → (∀ p, am_A k' (ad 18) p = if n0 ≤ p ∧ p < n0 + l then lb w (l - 1 - (p - n0)) else am_A h1 (ad 18) p) → Q (Int32.ofNat (n0 + l)) k') →
      am_Ev tt 151 49 [some (.ref m), some (.long w), none, none, some (.int (Int32.ofNat d + (-1 : Int32)))] [] k (am_pI Q no_x) := by
    intro l n0 hl hl8 d
    induction d with
    | zero =>
      intro c k Q ec p1 p2 p3 p4 p5 p6 hQ
      have sk := p1.md s1
      have : c = l := by omega
      subst this
      refine vc_151_49 tt _ _ _ _ _ _ ⟨fun _ => ⟨sk.1, ?_⟩, fun z => absurd (show Int32.ofNat 0 + (-1 : Int32) < Int32.ofNat 0 by decide) z⟩
      rw [p3]
      exact hQ k p1 p2 p3 p4 p5 p6
    | succ d ih =>
      intro c k Q ec p1 p2 p3 p4 p5 p6 hQ
      have sk := p1.md s1
      rw [qi_dec (by omega), Nat.add_sub_cancel]
      refine vc_151_49 tt _ _ _ _ _ _ ?_
      have lt1 : n0 + c < 5000 := by omega
      simp (disch := omega) only [sk.1, md_f sk, md_i sk, p3, qi_mul, lt1, am_hs, qi_lt, qi_le, qi_eq, qi_nn, qi_in, qi_add, qi_l, ql_i, ql_lt, ql_le, ql_eq, ql_add, qc_lt, qc_eq, qc_ge, qc_gt, qc_le, true_and, and_true, and_self, true_or, or_true, false_or, or_false, false_and, and_false, not_true_eq_false, not_false_eq_true, Classical.not_not, true_implies, false_implies, implies_true, exists_eq_left, exists_eq_left', Option.some.injEq, reduceIte, Nat.reduceEqDiff, Nat.reduceLT, Nat.reduceLeDiff, Nat.reduceAdd, Nat.reduceSub, Nat.reduceMul, eq_self, ne_eq, and_imp, forall_const, reduceCtorEq, am_w, List.map_cons, List.map_nil, List.sum_cons, List.sum_nil, Value.category, Nat.zero_le, Nat.le_refl]
      refine ⟨by omega, fun _ => ?_⟩
      rw [q8_8, lb_s (by omega), lb_88]
      refine ih (c + 1) _ Q (by omega) ((p1.tr mfr.sA).tr mfr.sI) (fun f z => ?_) ?_ p4 (fun t t1 => ?_) (fun p => ?_) hQ
      · simp only [am_hs]
        rw [if_neg (fun w => z w.2.1)]
        exact p2 f z
      · simp only [am_hs, true_and, and_true, and_self, true_or, or_true, false_or, or_false, false_and, and_false, not_true_eq_false, not_false_eq_true, Classical.not_not, true_implies, false_implies, implies_true, exists_eq_left, exists_eq_left', Option.some.injEq, reduceIte, Nat.reduceEqDiff, Nat.reduceLT, Nat.reduceLeDiff, Nat.reduceAdd, Nat.reduceSub, Nat.reduceMul, eq_self, ne_eq, and_imp, forall_const, reduceCtorEq, am_w, List.map_cons, List.map_nil, List.sum_cons, List.sum_nil, Value.category, Nat.zero_le, Nat.le_refl]; rfl
      · rw [← p5 t t1]
        funext j
        simp only [am_hs, md_i sk]
        rw [if_neg (fun z => t1 z.1)]
      · simp only [am_hs, md_i sk, true_and, and_true, and_self, true_or, or_true, false_or, or_false, false_and, and_false, not_true_eq_false, not_false_eq_true, Classical.not_not, true_implies, false_implies, implies_true, exists_eq_left, exists_eq_left', Option.some.injEq, reduceIte, Nat.reduceEqDiff, Nat.reduceLT, Nat.reduceLeDiff, Nat.reduceAdd, Nat.reduceSub, Nat.reduceMul, eq_self, ne_eq, and_imp, forall_const, reduceCtorEq, am_w, List.map_cons, List.map_nil, List.sum_cons, List.sum_nil, Value.category, Nat.zero_le, Nat.le_refl]
        rw [p6 p]
        by_cases e : p = n0 + c
        · rw [if_pos e, if_pos (by omega)]
          congr 1
          omega
        · rw [if_neg e]
          by_cases e2 : n0 ≤ p ∧ p < n0 + c
          · rw [if_pos e2, if_pos (by omega)]
          · rw [if_neg e2, if_neg (by omega)]
  cases ex : ixo 9 x with
  | none =>
    have fE : f_type S w x = (-2, S) := by
      rw [f_type, if_pos]
      rcases qi_cases x with hx | ⟨b, hb, rfl⟩
      · exact Or.inl hx
      · refine Or.inr ?_
        simp (disch := omega) only [qi_lt, qi_le, qi_eq, qi_nn, qi_in, qi_add, qi_l, ql_i, ql_lt, ql_le, ql_eq, ql_add, qc_lt, qc_eq, qc_ge, qc_gt, qc_le]
        apply Nat.lt_of_not_le
        intro z
        rw [ixo_n (by omega) (by omega)] at ex
        cases ex
    rw [fE]
    exact ⟨fun w => absurd rfl w, fun _ => ⟨rfl, q0⟩⟩
  | some b =>
    obtain ⟨hb, rfl⟩ := ixo_o ex
    have c1 : ¬ (Int32.ofNat b < Int32.ofNat 0 ∨ Int32.ofNat 8 < Int32.ofNat b) := by simp (disch := omega) only [qi_lt, qi_le, qi_eq, qi_nn, qi_in, qi_add, qi_l, ql_i, ql_lt, ql_le, ql_eq, ql_add, qc_lt, qc_eq, qc_ge, qc_gt, qc_le]; omega
    refine ⟨fun _ => ⟨fun z => ?_, fun z => ⟨s1.1, ?_⟩⟩, fun w => absurd (show ¬ b01 true = Int32.ofNat 0 by decide) w⟩
    · simp (disch := omega) only [qi_lt, qi_le, qi_eq, qi_nn, qi_in, qi_add, qi_l, ql_i, ql_lt, ql_le, ql_eq, ql_add, qc_lt, qc_eq, qc_ge, qc_gt, qc_le] at z
      refine vc_151_29 tt _ _ _ _ _ _ ?_
      simp (disch := omega) only [s1.1, q1.2.2.2.2.1, am_hs, qi_lt, qi_le, qi_eq, qi_nn, qi_in, qi_add, qi_l, ql_i, ql_lt, ql_le, ql_eq, ql_add, qc_lt, qc_eq, qc_ge, qc_gt, qc_le, true_and, and_true, and_self, true_or, or_true, false_or, or_false, false_and, and_false, not_true_eq_false, not_false_eq_true, Classical.not_not, true_implies, false_implies, implies_true, exists_eq_left, exists_eq_left', Option.some.injEq, reduceIte, Nat.reduceEqDiff, Nat.reduceLT, Nat.reduceLeDiff, Nat.reduceAdd, Nat.reduceSub, Nat.reduceMul, eq_self, ne_eq, and_imp, forall_const, reduceCtorEq, am_w, List.map_cons, List.map_nil, List.sum_cons, List.sum_nil, Value.category, Nat.zero_le, Nat.le_refl]
      refine ⟨fun z2 => ?_, fun z2 => ?_⟩
      · have fE : f_type S w (Int32.ofNat b) = (Int32.ofNat (S.2.1 + b), put_T S (S.2.1 + b) (apw S.2.2.1 S.2.1 w b)) := by
          rw [f_type, if_neg c1, if_neg (by simp (disch := omega) only [qi_lt, qi_le, qi_eq, qi_nn, qi_in, qi_add, qi_l, ql_i, ql_lt, ql_le, ql_eq, ql_add, qc_lt, qc_eq, qc_ge, qc_gt, qc_le]; omega), qi_nn (by omega), if_neg (by omega)]
        rw [fE, Int32.sub_eq_add_neg]
        refine key b S.2.1 z2 (by omega) b 0 h1 _ (by omega) mfr.rf (fun _ _ => rfl) q1.2.2.2.2.1 rfl (fun _ _ => rfl) (fun p => by rw [if_neg (by omega)]) (fun k' p1 p2 p3 p4 p5 p6 => ⟨rfl, q0.tr ?_⟩)
        refine q1.upT wf p1 (fun f _ z => p2 f z) p5 (by rw [p4]) p3 (fun j hj => ?_)
        rw [p6]
        unfold apw
        by_cases c3 : S.2.1 ≤ j ∧ j < S.2.1 + b
        · rw [if_pos c3, if_pos c3]
        · rw [if_neg c3, if_neg c3]
          exact q1.2.2.2.2.2.1 j (by omega)
      · have fE : f_type S w (Int32.ofNat b) = (-4, S) := by
          rw [f_type, if_neg c1, if_neg (by simp (disch := omega) only [qi_lt, qi_le, qi_eq, qi_nn, qi_in, qi_add, qi_l, ql_i, ql_lt, ql_le, ql_eq, ql_add, qc_lt, qc_eq, qc_ge, qc_gt, qc_le]; omega), qi_nn (by omega), if_pos (by omega)]
        rw [fE]
        exact ⟨rfl, q0⟩
    · have z := Classical.not_not.1 z
      simp (disch := omega) only [qi_lt, qi_le, qi_eq, qi_nn, qi_in, qi_add, qi_l, ql_i, ql_lt, ql_le, ql_eq, ql_add, qc_lt, qc_eq, qc_ge, qc_gt, qc_le] at z
      subst z
      have fE : f_type S w (Int32.ofNat 0) = (Int32.ofNat 0, put_T S 0 S.2.2.1) := by
        rw [f_type, if_neg c1, if_pos rfl]
      rw [fE]
      refine vc_151_29 tt _ _ _ _ _ _ ?_
      have l5 : Int32.ofNat 0 + Int32.ofNat 0 ≤ Int32.ofNat 5000 := by decide
      simp (disch := omega) only [s1.1, l5, am_hs, true_and, and_true, and_self, true_or, or_true, false_or, or_false, false_and, and_false, not_true_eq_false, not_false_eq_true, Classical.not_not, true_implies, false_implies, implies_true, exists_eq_left, exists_eq_left', Option.some.injEq, reduceIte, Nat.reduceEqDiff, Nat.reduceLT, Nat.reduceLeDiff, Nat.reduceAdd, Nat.reduceSub, Nat.reduceMul, eq_self, ne_eq, and_imp, forall_const, reduceCtorEq, am_w, List.map_cons, List.map_nil, List.sum_cons, List.sum_nil, Value.category, Nat.zero_le, Nat.le_refl]
      rw [Int32.sub_eq_add_neg]
      refine vc_151_49 tt _ _ _ _ _ _ ⟨fun _ => ⟨s1.1, ?_⟩, fun z => absurd (show Int32.ofNat 0 + (-1 : Int32) < Int32.ofNat 0 by decide) z⟩
      simp only [am_hs, true_and, and_true, and_self, true_or, or_true, false_or, or_false, false_and, and_false, not_true_eq_false, not_false_eq_true, Classical.not_not, true_implies, false_implies, implies_true, exists_eq_left, exists_eq_left', Option.some.injEq, reduceIte, Nat.reduceEqDiff, Nat.reduceLT, Nat.reduceLeDiff, Nat.reduceAdd, Nat.reduceSub, Nat.reduceMul, eq_self, ne_eq, and_imp, forall_const, reduceCtorEq, am_w, List.map_cons, List.map_nil, List.sum_cons, List.sum_nil, Value.category, Nat.zero_le, Nat.le_refl]
      refine q0.tr (q1.upT wf mfr.sI (fun f _ z => ?_) (fun _ _ => rfl) rfl (by simp only [am_hs, true_and, and_true, and_self, true_or, or_true, false_or, or_false, false_and, and_false, not_true_eq_false, not_false_eq_true, Classical.not_not, true_implies, false_implies, implies_true, exists_eq_left, exists_eq_left', Option.some.injEq, reduceIte, Nat.reduceEqDiff, Nat.reduceLT, Nat.reduceLeDiff, Nat.reduceAdd, Nat.reduceSub, Nat.reduceMul, eq_self, ne_eq, and_imp, forall_const, reduceCtorEq, am_w, List.map_cons, List.map_nil, List.sum_cons, List.sum_nil, Value.category, Nat.zero_le, Nat.le_refl]) (fun j hj => absurd hj (Nat.not_lt_zero j)))
      simp only [am_hs]
      rw [if_neg (fun w => z w.2.1)]
end MF
