/-! deps: 19b -/
/-! ===== the class reads: packed sizes, a coder ===== -/
/-! 52 yX5_takePackedSizes -/
theorem vc_52_0 (tt : Nat → Nat) (a0 : Nat) (a1 : Int64) (h : am_H) (Q : am_H → Prop) (Qx : String → am_H → Prop) (q :
  (am_K h a0 = 6 ∧ ∃ q1, am_R h 5 0 a0 = some q1 ∧
  (am_K h q1 = 3 ∧ ∃ (Q3 : am_H → Prop) (X3 : String → am_H → Prop), am_Ct tt 27 [.ref q1, .int (Int32.ofNat 6)] h (am_pV Q3 X3) ∧ (∀ h2, Q3 h2 →
   (am_K h2 a0 = 6 ∧ ∃ q4, am_R h2 5 0 a0 = some q4 ∧
   (am_K h2 q4 = 3 ∧ ∃ (Q6 : Int64 → am_H → Prop) (X6 : String → am_H → Prop), am_Ct tt 29 [.ref q4, .long (Int64.ofNat 0), .long (Int64.ofNat 0)] h2 (am_pL Q6 X6) ∧ (∀ x7 h5, Q6 x7 h5 →
    (am_K h5 a0 = 6 ∧ ∃ q8, am_R h5 5 0 a0 = some q8 ∧
    (am_K h5 q8 = 3 ∧ ∃ (Q10 : Int64 → am_H → Prop) (X10 : String → am_H → Prop), am_Ct tt 29 [.ref q8, .long (Int64.ofNat 1), .long (Int64.ofNat 6)] h5 (am_pL Q10 X10) ∧ (∀ x11 h9, Q10 x11 h9 →
     (am_K h9 a0 = 6 ∧
     (am_K h9 a0 = 6 ∧ ∃ q12, am_R h9 5 0 a0 = some q12 ∧
     (am_K h9 q12 = 3 ∧ ∃ (Q14 : am_H → Prop) (X14 : String → am_H → Prop), am_Ct tt 27 [.ref q12, .int (Int32.ofNat 9)] (am_sI h9 5 1 a0 (x11).toInt32) (am_pV Q14 X14) ∧ (∀ h13, Q14 h13 →
      am_Ev tt 52 49 [some (.ref a0), some (.long a1), none, some (.long (Int64.ofNat 0)), none, some (.int (Int32.ofNat 0)), none] [] h13 (am_pV Q Qx)) ∧ (∀ E15 h13, X14 E15 h13 → Qx E15 h13))))) ∧ (∀ E16 h9, X10 E16 h9 → Qx E16 h9)))) ∧ (∀ E17 h5, X6 E17 h5 → Qx E17 h5)))) ∧ (∀ E18 h2, X3 E18 h2 → Qx E18 h2)))) :
  am_Ev tt 52 0 [some (.ref a0), some (.long a1), none, none, none, none, none] [] h (am_pV Q Qx) := am_vc 29 [(49, [true, true, false, true, false, true, false]), (124, [true, true, false, true, false, true, false])] q
theorem vc_52_49 (tt : Nat → Nat) (a0 : Nat) (a1 : Int64) (a3 : Int64) (a5 : Int32) (h : am_H) (Q : am_H → Prop) (Qx : String → am_H → Prop) (q :
  (am_K h a0 = 6 ∧
  (((am_I h 5 1 a0) ≤ a5 →
   (am_K h a0 = 6 ∧ ∃ q1, am_R h 5 0 a0 = some q1 ∧
   (am_K h q1 = 3 ∧ ∃ (Q3 : am_H → Prop) (X3 : String → am_H → Prop), am_Ct tt 27 [.ref q1, .int (Int32.ofNat 0)] h (am_pV Q3 X3) ∧ (∀ h2, Q3 h2 →
    Q h2) ∧ (∀ E4 h2, X3 E4 h2 → Qx E4 h2)))) ∧
  (¬ ((am_I h 5 1 a0) ≤ a5) →
   (am_K h a0 = 6 ∧ ∃ q5, am_R h 5 0 a0 = some q5 ∧
   (am_K h q5 = 3 ∧
   (am_K h a0 = 6 ∧ ∃ q6, am_R h 5 2 a0 = some q6 ∧
   (am_K h a0 = 6 ∧ ∃ q7, am_R h 5 0 a0 = some q7 ∧
   (am_K h q7 = 3 ∧ ∃ (Q9 : Int64 → am_H → Prop) (X9 : String → am_H → Prop), am_Ct tt 29 [.ref q7, .long (Int64.ofNat 1), .long (Int64.ofNat 2400)] h (am_pL Q9 X9) ∧ (∀ x10 h8, Q9 x10 h8 →
    (am_K h8 q6 = 21 ∧ vp_in a5 (am_N h8 q6) ∧
    (am_K h8 a0 = 6 ∧ ∃ q11, am_R h8 5 2 a0 = some q11 ∧
    ((am_K h8 q11 = 21 ∨ am_K h8 q11 = 31) ∧ vp_in a5 (am_N h8 q11) ∧
    (am_K h8 a0 = 6 ∧
    ((¬ a5 = ((am_I h8 5 1 a0) - (Int32.ofNat 1)) →
     am_Ev tt 52 124 [some (.ref a0), some (.long a1), none, some (.long (a3 + ((am_A (am_sA h8 q6 (a5).toNatClampNeg (x10).toInt32) q11 (a5).toNatClampNeg)).toInt64)), none, some (.int a5), none] [] (am_sA h8 q6 (a5).toNatClampNeg (x10).toInt32) (am_pV Q Qx)) ∧
    (¬ (¬ a5 = ((am_I h8 5 1 a0) - (Int32.ofNat 1))) →
     (((lg_cmp (a3 + ((am_A (am_sA h8 q6 (a5).toNatClampNeg (x10).toInt32) q11 (a5).toNatClampNeg)).toInt64) a1) = (Int32.ofNat 0) →
      am_Ev tt 52 124 [some (.ref a0), some (.long a1), none, some (.long (a3 + ((am_A (am_sA h8 q6 (a5).toNatClampNeg (x10).toInt32) q11 (a5).toNatClampNeg)).toInt64)), none, some (.int a5), none] [] (am_sA h8 q6 (a5).toNatClampNeg (x10).toInt32) (am_pV Q Qx)) ∧
     (¬ ((lg_cmp (a3 + ((am_A (am_sA h8 q6 (a5).toNatClampNeg (x10).toInt32) q11 (a5).toNatClampNeg)).toInt64) a1) = (Int32.ofNat 0)) →
      (am_K h8 a0 = 6 ∧ ∃ q12, am_R h8 5 0 a0 = some q12 ∧
      (am_K h8 q12 = 3 ∧ ∃ (Q14 : am_H → Prop) (X14 : String → am_H → Prop), am_Ct tt 22 [.ref q12, .int (Int32.ofNat 5), .int (am_I h 2 2 q5)] (am_sA h8 q6 (a5).toNatClampNeg (x10).toInt32) (am_pV Q14 X14) ∧ (∀ h13, Q14 h13 →
       am_Ev tt 52 124 [some (.ref a0), some (.long a1), none, some (.long (a3 + ((am_A (am_sA h8 q6 (a5).toNatClampNeg (x10).toInt32) q11 (a5).toNatClampNeg)).toInt64)), none, some (.int a5), none] [] h13 (am_pV Q Qx)) ∧ (∀ E15 h13, X14 E15 h13 → Qx E15 h13)))))))))))) ∧ (∀ E16 h8, X9 E16 h8 → Qx E16 h8)))))))))) :
  am_Ev tt 52 49 [some (.ref a0), some (.long a1), none, some (.long a3), none, some (.int a5), none] [] h (am_pV Q Qx) := am_vc 44 [(49, [true, true, false, true, false, true, false]), (124, [true, true, false, true, false, true, false])] q
theorem vc_52_124 (tt : Nat → Nat) (a0 : Nat) (a1 : Int64) (a3 : Int64) (a5 : Int32) (h : am_H) (Q : am_H → Prop) (Qx : String → am_H → Prop) (q :
  am_Ev tt 52 49 [some (.ref a0), some (.long a1), none, some (.long a3), none, some (.int (a5 + (Int32.ofNat 1))), none] [] h (am_pV Q Qx)) :
  am_Ev tt 52 124 [some (.ref a0), some (.long a1), none, some (.long a3), none, some (.int a5), none] [] h (am_pV Q Qx) := am_vc 5 [(49, [true, true, false, true, false, true, false]), (124, [true, true, false, true, false, true, false])] q

/-! 55 yX5_takeCoder -/
theorem vc_55_0 (tt : Nat → Nat) (a0 : Nat) (a1 : Int32) (h : am_H) (Q : am_H → Prop) (Qx : String → am_H → Prop) (q :
  (am_K h a0 = 6 ∧ ∃ q1, am_R h 5 0 a0 = some q1 ∧
  (am_K h q1 = 3 ∧ ∃ (Q3 : Int32 → am_H → Prop) (X3 : String → am_H → Prop), am_Ct tt 26 [.ref q1] h (am_pI Q3 X3) ∧ (∀ x4 h2, Q3 x4 h2 →
   (((x4 &&& (-33 : Int32)) < (Int32.ofNat 1) →
    am_Ev tt 55 23 [some (.ref a0), some (.int a1), some (.int x4), some (.int (x4 &&& (-33 : Int32))), none, none, none, none] [] h2 (am_pV Q Qx)) ∧
   (¬ ((x4 &&& (-33 : Int32)) < (Int32.ofNat 1)) →
    (((x4 &&& (-33 : Int32)) ≤ (Int32.ofNat 4) →
     am_Ev tt 55 30 [some (.ref a0), some (.int a1), some (.int x4), some (.int (x4 &&& (-33 : Int32))), none, none, none, none] [] h2 (am_pV Q Qx)) ∧
    (¬ ((x4 &&& (-33 : Int32)) ≤ (Int32.ofNat 4)) →
     am_Ev tt 55 23 [some (.ref a0), some (.int a1), some (.int x4), some (.int (x4 &&& (-33 : Int32))), none, none, none, none] [] h2 (am_pV Q Qx)))))) ∧ (∀ E5 h2, X3 E5 h2 → Qx E5 h2)))) :
  am_Ev tt 55 0 [some (.ref a0), some (.int a1), none, none, none, none, none, none] [] h (am_pV Q Qx) := am_vc 17 [(23, [true, true, true, true, false, false, false, false]), (30, [true, true, true, true, false, false, false, false]), (36, [true, true, true, true, true, true, false, false]), (91, [true, true, false, true, true, true, true, true]), (113, [true, true, false, true, true, true, true, false])] q
theorem vc_55_23 (tt : Nat → Nat) (a0 : Nat) (a1 : Int32) (a2 : Int32) (a3 : Int32) (h : am_H) (Q : am_H → Prop) (Qx : String → am_H → Prop) (q :
  (am_K h a0 = 6 ∧ ∃ q1, am_R h 5 0 a0 = some q1 ∧
  (am_K h q1 = 3 ∧ ∃ (Q3 : am_H → Prop) (X3 : String → am_H → Prop), am_Ct tt 23 [.ref q1] h (am_pV Q3 X3) ∧ (∀ h2, Q3 h2 →
   am_Ev tt 55 30 [some (.ref a0), some (.int a1), some (.int a2), some (.int a3), none, none, none, none] [] h2 (am_pV Q Qx)) ∧ (∀ E4 h2, X3 E4 h2 → Qx E4 h2)))) :
  am_Ev tt 55 23 [some (.ref a0), some (.int a1), some (.int a2), some (.int a3), none, none, none, none] [] h (am_pV Q Qx) := am_vc 6 [(23, [true, true, true, true, false, false, false, false]), (30, [true, true, true, true, false, false, false, false]), (36, [true, true, true, true, true, true, false, false]), (91, [true, true, false, true, true, true, true, true]), (113, [true, true, false, true, true, true, true, false])] q
theorem vc_55_30 (tt : Nat → Nat) (a0 : Nat) (a1 : Int32) (a2 : Int32) (a3 : Int32) (h : am_H) (Q : am_H → Prop) (Qx : String → am_H → Prop) (q :
  am_Ev tt 55 36 [some (.ref a0), some (.int a1), some (.int a2), some (.int a3), some (.int (Int32.ofNat 0)), some (.int (Int32.ofNat 0)), none, none] [] h (am_pV Q Qx)) :
  am_Ev tt 55 30 [some (.ref a0), some (.int a1), some (.int a2), some (.int a3), none, none, none, none] [] h (am_pV Q Qx) := am_vc 7 [(23, [true, true, true, true, false, false, false, false]), (30, [true, true, true, true, false, false, false, false]), (36, [true, true, true, true, true, true, false, false]), (91, [true, true, false, true, true, true, true, true]), (113, [true, true, false, true, true, true, true, false])] q
theorem vc_55_36 (tt : Nat → Nat) (a0 : Nat) (a1 : Int32) (a2 : Int32) (a3 : Int32) (a4 : Int32) (a5 : Int32) (h : am_H) (Q : am_H → Prop) (Qx : String → am_H → Prop) (q :
  ((a3 ≤ a5 →
   ((a2 = a3 →
    am_Ev tt 55 113 [some (.ref a0), some (.int a1), none, some (.int a3), some (.int a4), some (.int (Int32.ofNat 0)), some (.int (Int32.ofNat 0)), none] [] h (am_pV Q Qx)) ∧
   (¬ (a2 = a3) →
    (am_K h a0 = 6 ∧ ∃ q1, am_R h 5 0 a0 = some q1 ∧
    (am_K h q1 = 3 ∧ ∃ (Q3 : Int64 → am_H → Prop) (X3 : String → am_H → Prop), am_Ct tt 29 [.ref q1, .long (Int64.ofNat 1), .long (Int64.ofNat 4)] h (am_pL Q3 X3) ∧ (∀ x4 h2, Q3 x4 h2 →
     am_Ev tt 55 91 [some (.ref a0), some (.int a1), none, some (.int a3), some (.int a4), some (.int (x4).toInt32), some (.int (Int32.ofNat 0)), some (.int (Int32.ofNat 0))] [] h2 (am_pV Q Qx)) ∧ (∀ E5 h2, X3 E5 h2 → Qx E5 h2)))))) ∧
  (¬ (a3 ≤ a5) →
   (am_K h a0 = 6 ∧ ∃ q6, am_R h 5 0 a0 = some q6 ∧
   (am_K h q6 = 3 ∧ ∃ (Q8 : Int32 → am_H → Prop) (X8 : String → am_H → Prop), am_Ct tt 26 [.ref q6] h (am_pI Q8 X8) ∧ (∀ x9 h7, Q8 x9 h7 →
    am_Ev tt 55 36 [some (.ref a0), some (.int a1), some (.int a2), some (.int a3), some (.int ((a4 <<< ((Int32.ofNat 8) &&& 31)) ||| x9)), some (.int (a5 + (Int32.ofNat 1))), none, none] [] h7 (am_pV Q Qx)) ∧ (∀ E10 h7, X8 E10 h7 → Qx E10 h7)))))) :
  am_Ev tt 55 36 [some (.ref a0), some (.int a1), some (.int a2), some (.int a3), some (.int a4), some (.int a5), none, none] [] h (am_pV Q Qx) := am_vc 22 [(23, [true, true, true, true, false, false, false, false]), (30, [true, true, true, true, false, false, false, false]), (36, [true, true, true, true, true, true, false, false]), (91, [true, true, false, true, true, true, true, true]), (113, [true, true, false, true, true, true, true, false])] q
theorem vc_55_91 (tt : Nat → Nat) (a0 : Nat) (a1 : Int32) (a3 : Int32) (a4 : Int32) (a5 : Int32) (a6 : Int32) (a7 : Int32) (h : am_H) (Q : am_H → Prop) (Qx : String → am_H → Prop) (q :
  ((a5 ≤ a7 →
   am_Ev tt 55 113 [some (.ref a0), some (.int a1), none, some (.int a3), some (.int a4), some (.int a5), some (.int a6), none] [] h (am_pV Q Qx)) ∧
  (¬ (a5 ≤ a7) →
   (am_K h a0 = 6 ∧ ∃ q1, am_R h 5 0 a0 = some q1 ∧
   (am_K h q1 = 3 ∧ ∃ (Q3 : Int32 → am_H → Prop) (X3 : String → am_H → Prop), am_Ct tt 26 [.ref q1] h (am_pI Q3 X3) ∧ (∀ x4 h2, Q3 x4 h2 →
    am_Ev tt 55 91 [some (.ref a0), some (.int a1), none, some (.int a3), some (.int a4), some (.int a5), some (.int x4), some (.int (a7 + (Int32.ofNat 1)))] [] h2 (am_pV Q Qx)) ∧ (∀ E5 h2, X3 E5 h2 → Qx E5 h2)))))) :
  am_Ev tt 55 91 [some (.ref a0), some (.int a1), none, some (.int a3), some (.int a4), some (.int a5), some (.int a6), some (.int a7)] [] h (am_pV Q Qx) := am_vc 12 [(23, [true, true, true, true, false, false, false, false]), (30, [true, true, true, true, false, false, false, false]), (36, [true, true, true, true, true, true, false, false]), (91, [true, true, false, true, true, true, true, true]), (113, [true, true, false, true, true, true, true, false])] q
theorem vc_55_113 (tt : Nat → Nat) (a0 : Nat) (a1 : Int32) (a3 : Int32) (a4 : Int32) (a5 : Int32) (a6 : Int32) (h : am_H) (Q : am_H → Prop) (Qx : String → am_H → Prop) (q :
  (am_K h a0 = 6 ∧ ∃ q1, am_R h 5 11 a0 = some q1 ∧
  (∃ (Q3 : Int32 → am_H → Prop) (X3 : String → am_H → Prop), am_Ct tt 56 [.int a3, .int a4, .int a5] h (am_pI Q3 X3) ∧ (∀ x4 h2, Q3 x4 h2 →
   (am_K h2 q1 = 21 ∧ vp_in a1 (am_N h2 q1) ∧
   (am_K h2 a0 = 6 ∧ ∃ q5, am_R h2 5 12 a0 = some q5 ∧
   (am_K h2 q5 = 21 ∧ vp_in a1 (am_N h2 q5) ∧
   Q (am_sA (am_sA h2 q1 (a1).toNatClampNeg x4) q5 (a1).toNatClampNeg (a6 + (Int32.ofNat 1))))))) ∧ (∀ E6 h2, X3 E6 h2 → Qx E6 h2)))) :
  am_Ev tt 55 113 [some (.ref a0), some (.int a1), none, some (.int a3), some (.int a4), some (.int a5), some (.int a6), none] [] h (am_pV Q Qx) := am_vc 18 [(23, [true, true, true, true, false, false, false, false]), (30, [true, true, true, true, false, false, false, false]), (36, [true, true, true, true, true, true, false, false]), (91, [true, true, false, true, true, true, true, true]), (113, [true, true, false, true, true, true, true, false])] q

/-! 56 yX5_kindOf -/
theorem vc_56_0 (tt : Nat → Nat) (a0 : Int32) (a1 : Int32) (a2 : Int32) (h : am_H) (Q : Int32 → am_H → Prop) (Qx : String → am_H → Prop) (q :
  ((¬ a0 = (Int32.ofNat 1) →
   ((a2 ≤ (Int32.ofNat 0) →
    ((¬ a0 = (Int32.ofNat 1) →
     ((¬ a0 = (Int32.ofNat 3) →
      ((¬ a0 = (Int32.ofNat 3) →
       Q (-1 : Int32) h) ∧
      (¬ (¬ a0 = (Int32.ofNat 3)) →
       ((0 : Nat) = 0 ∧
       ((¬ a1 = (Int32.ofNat 131844) →
        Q (-1 : Int32) h) ∧
       (¬ (¬ a1 = (Int32.ofNat 131844)) →
        Q (Int32.ofNat 3) h)))))) ∧
     (¬ (¬ a0 = (Int32.ofNat 3)) →
      ((0 : Nat) = 0 ∧
      ((¬ a1 = (Int32.ofNat 131842) →
       ((¬ a0 = (Int32.ofNat 3) →
        Q (-1 : Int32) h) ∧
       (¬ (¬ a0 = (Int32.ofNat 3)) →
        ((0 : Nat) = 0 ∧
        ((¬ a1 = (Int32.ofNat 131844) →
         Q (-1 : Int32) h) ∧
        (¬ (¬ a1 = (Int32.ofNat 131844)) →
         Q (Int32.ofNat 3) h)))))) ∧
      (¬ (¬ a1 = (Int32.ofNat 131842)) →
       Q (Int32.ofNat 2) h)))))) ∧
    (¬ (¬ a0 = (Int32.ofNat 1)) →
     ((¬ a1 = (Int32.ofNat 0) →
      ((¬ a0 = (Int32.ofNat 3) →
       ((¬ a0 = (Int32.ofNat 3) →
        Q (-1 : Int32) h) ∧
       (¬ (¬ a0 = (Int32.ofNat 3)) →
        ((0 : Nat) = 0 ∧
        ((¬ a1 = (Int32.ofNat 131844) →
         Q (-1 : Int32) h) ∧
        (¬ (¬ a1 = (Int32.ofNat 131844)) →
         Q (Int32.ofNat 3) h)))))) ∧
      (¬ (¬ a0 = (Int32.ofNat 3)) →
       ((0 : Nat) = 0 ∧
       ((¬ a1 = (Int32.ofNat 131842) →
        ((¬ a0 = (Int32.ofNat 3) →
         Q (-1 : Int32) h) ∧
        (¬ (¬ a0 = (Int32.ofNat 3)) →
         ((0 : Nat) = 0 ∧
         ((¬ a1 = (Int32.ofNat 131844) →
          Q (-1 : Int32) h) ∧
         (¬ (¬ a1 = (Int32.ofNat 131844)) →
          Q (Int32.ofNat 3) h)))))) ∧
       (¬ (¬ a1 = (Int32.ofNat 131842)) →
        Q (Int32.ofNat 2) h)))))) ∧
     (¬ (¬ a1 = (Int32.ofNat 0)) →
      Q (Int32.ofNat 0) h))))) ∧
   (¬ (a2 ≤ (Int32.ofNat 0)) →
    Q (-1 : Int32) h))) ∧
  (¬ (¬ a0 = (Int32.ofNat 1)) →
   ((¬ a1 = (Int32.ofNat 3) →
    ((a2 ≤ (Int32.ofNat 0) →
     ((¬ a0 = (Int32.ofNat 1) →
      ((¬ a0 = (Int32.ofNat 3) →
       ((¬ a0 = (Int32.ofNat 3) →
        Q (-1 : Int32) h) ∧
       (¬ (¬ a0 = (Int32.ofNat 3)) →
        ((0 : Nat) = 0 ∧
        ((¬ a1 = (Int32.ofNat 131844) →
         Q (-1 : Int32) h) ∧
        (¬ (¬ a1 = (Int32.ofNat 131844)) →
         Q (Int32.ofNat 3) h)))))) ∧
      (¬ (¬ a0 = (Int32.ofNat 3)) →
       ((0 : Nat) = 0 ∧
       ((¬ a1 = (Int32.ofNat 131842) →
        ((¬ a0 = (Int32.ofNat 3) →
         Q (-1 : Int32) h) ∧
        (¬ (¬ a0 = (Int32.ofNat 3)) →
         ((0 : Nat) = 0 ∧
         ((¬ a1 = (Int32.ofNat 131844) →
          Q (-1 : Int32) h) ∧
         (¬ (¬ a1 = (Int32.ofNat 131844)) →
          Q (Int32.ofNat 3) h)))))) ∧
       (¬ (¬ a1 = (Int32.ofNat 131842)) →
        Q (Int32.ofNat 2) h)))))) ∧
     (¬ (¬ a0 = (Int32.ofNat 1)) →
      ((¬ a1 = (Int32.ofNat 0) →
       ((¬ a0 = (Int32.ofNat 3) →
        ((¬ a0 = (Int32.ofNat 3) →
         Q (-1 : Int32) h) ∧
        (¬ (¬ a0 = (Int32.ofNat 3)) →
         ((0 : Nat) = 0 ∧
         ((¬ a1 = (Int32.ofNat 131844) →
          Q (-1 : Int32) h) ∧
         (¬ (¬ a1 = (Int32.ofNat 131844)) →
          Q (Int32.ofNat 3) h)))))) ∧
       (¬ (¬ a0 = (Int32.ofNat 3)) →
        ((0 : Nat) = 0 ∧
        ((¬ a1 = (Int32.ofNat 131842) →
         ((¬ a0 = (Int32.ofNat 3) →
          Q (-1 : Int32) h) ∧
         (¬ (¬ a0 = (Int32.ofNat 3)) →
          ((0 : Nat) = 0 ∧
          ((¬ a1 = (Int32.ofNat 131844) →
           Q (-1 : Int32) h) ∧
          (¬ (¬ a1 = (Int32.ofNat 131844)) →
           Q (Int32.ofNat 3) h)))))) ∧
        (¬ (¬ a1 = (Int32.ofNat 131842)) →
         Q (Int32.ofNat 2) h)))))) ∧
      (¬ (¬ a1 = (Int32.ofNat 0)) →
       Q (Int32.ofNat 0) h))))) ∧
    (¬ (a2 ≤ (Int32.ofNat 0)) →
     Q (-1 : Int32) h))) ∧
   (¬ (¬ a1 = (Int32.ofNat 3)) →
    ((¬ a2 = (Int32.ofNat 1) →
     ((a2 ≤ (Int32.ofNat 0) →
      ((¬ a0 = (Int32.ofNat 1) →
       ((¬ a0 = (Int32.ofNat 3) →
        ((¬ a0 = (Int32.ofNat 3) →
         Q (-1 : Int32) h) ∧
        (¬ (¬ a0 = (Int32.ofNat 3)) →
         ((0 : Nat) = 0 ∧
         ((¬ a1 = (Int32.ofNat 131844) →
          Q (-1 : Int32) h) ∧
         (¬ (¬ a1 = (Int32.ofNat 131844)) →
          Q (Int32.ofNat 3) h)))))) ∧
       (¬ (¬ a0 = (Int32.ofNat 3)) →
        ((0 : Nat) = 0 ∧
        ((¬ a1 = (Int32.ofNat 131842) →
         ((¬ a0 = (Int32.ofNat 3) →
          Q (-1 : Int32) h) ∧
         (¬ (¬ a0 = (Int32.ofNat 3)) →
          ((0 : Nat) = 0 ∧
          ((¬ a1 = (Int32.ofNat 131844) →
           Q (-1 : Int32) h) ∧
          (¬ (¬ a1 = (Int32.ofNat 131844)) →
           Q (Int32.ofNat 3) h)))))) ∧
        (¬ (¬ a1 = (Int32.ofNat 131842)) →
         Q (Int32.ofNat 2) h)))))) ∧
      (¬ (¬ a0 = (Int32.ofNat 1)) →
       ((¬ a1 = (Int32.ofNat 0) →
        ((¬ a0 = (Int32.ofNat 3) →
         ((¬ a0 = (Int32.ofNat 3) →
          Q (-1 : Int32) h) ∧
         (¬ (¬ a0 = (Int32.ofNat 3)) →
          ((0 : Nat) = 0 ∧
          ((¬ a1 = (Int32.ofNat 131844) →
           Q (-1 : Int32) h) ∧
          (¬ (¬ a1 = (Int32.ofNat 131844)) →
           Q (Int32.ofNat 3) h)))))) ∧
        (¬ (¬ a0 = (Int32.ofNat 3)) →
         ((0 : Nat) = 0 ∧
         ((¬ a1 = (Int32.ofNat 131842) →
          ((¬ a0 = (Int32.ofNat 3) →
           Q (-1 : Int32) h) ∧
          (¬ (¬ a0 = (Int32.ofNat 3)) →
           ((0 : Nat) = 0 ∧
           ((¬ a1 = (Int32.ofNat 131844) →
            Q (-1 : Int32) h) ∧
           (¬ (¬ a1 = (Int32.ofNat 131844)) →
            Q (Int32.ofNat 3) h)))))) ∧
         (¬ (¬ a1 = (Int32.ofNat 131842)) →
          Q (Int32.ofNat 2) h)))))) ∧
       (¬ (¬ a1 = (Int32.ofNat 0)) →
        Q (Int32.ofNat 0) h))))) ∧
     (¬ (a2 ≤ (Int32.ofNat 0)) →
      Q (-1 : Int32) h))) ∧
    (¬ (¬ a2 = (Int32.ofNat 1)) →
     Q (Int32.ofNat 1) h))))))) :
  am_Ev tt 56 0 [some (.int a0), some (.int a1), some (.int a2)] [] h (am_pI Q Qx) := am_vc 32 [] q

theorem bd_as {α β γ : Type} {r : Except pe (α × Nat)} {f : α → Nat → Except pe (β × Nat)} {g : β → Nat → Except pe γ} : bd (bd r f) g = bd r (fun a p => bd (f a p) g) := by
  unfold bd
  cases r with
  | error e => rfl
  | ok v => rfl
abbrev Xn : Nat → Prop := fun _ => False
abbrev Yc : Nat → Nat → Nat → Prop := fun c g k => c = 2 ∧ g = 2 ∧ k = 31
section RB
variable {tt : Nat → Nat} {h0 h h' h'' : am_H} {cd : Nat → Nat} {bb : Nat → Nat → Nat} {wa wt n p : Nat}
abbrev FF (cd : Nat → Nat) (wt : Nat) (h0 : am_H) : Fn := am_A h0 (cd (c_tb wt))
def Xp (k : Nat) : Prop := k = 42
def Yp (c g k : Nat) : Prop := (c = 2 ∧ g = 2 ∧ k = 31) ∨ (c = 5 ∧ g = 1 ∧ k = 32)
theorem Xp_A {k : Nat} (h : Xp k) : XA wa k := by unfold Xp at h; unfold XA; omega
theorem Yp_A {c g k : Nat} (h : Yp c g k) : YA wa c g k := by unfold Yp at h; unfold YA; omega
theorem ct_takePackedSizes (x : CX tt h0 cd bb wa wt n h p) {off : Nat} (ho : off ≤ 5000) {r : Except pe ((Nat × (Nat → Nat)) × Nat)} (hr : r = pPS (FF cd wt h0) n off p) : am_Ct tt 52 [.ref (cd 32), .long (Int64.ofNat off)] h (am_pV (fun h' => ∃ B pk p', r = .ok ((B, pk), p') ∧ CX tt h0 cd bb wa wt n h' p' ∧ rf cd Xp Yp h h' ∧ B ≤ 6 ∧ am_I h' 5 1 (cd 32) = Int32.ofNat B ∧ ∀ b, b < B → am_A h' (cd 42) b = Int32.ofNat (pk b) ∧ pk b ≤ 2400) (ER cd wa h0 r)) := by
  have ci := x.ci
  have loop : ∀ (B : Nat), B ≤ 6 → ∀ (d i : Nat) (k : am_H) (q s : Nat) (pk : Nat → Nat), d + i = B → CX tt h0 cd bb wa wt n k q → rf cd Xp Yp h k → am_I k 5 1 (cd 32) = Int32.ofNat B → (∀ j, j < i → am_A k (cd 42) j = Int32.ofNat (pk j) ∧ pk j ≤ 2400) → s ≤ 2400 * i → r = bd (lPS (FF cd wt h0) n off d i q s pk) (fun pk p => bd (tX (FF cd wt h0) n p 0) fun _ p => .ok ((B, pk), p)) →
      am_Ev tt 52 49 [some (.ref (cd 32)), some (.long (Int64.ofNat off)), none, some (.long (Int64.ofNat s)), none, some (.int (Int32.ofNat i)), none] [] k (am_pV (fun h' => ∃ B pk p', r = .ok ((B, pk), p') ∧ CX tt h0 cd bb wa wt n h' p' ∧ rf cd Xp Yp h h' ∧ B ≤ 6 ∧ am_I h' 5 1 (cd 32) = Int32.ofNat B ∧ ∀ b, b < B → am_A h' (cd 42) b = Int32.ofNat (pk b) ∧ pk b ≤ 2400) (ER cd wa h0 r)) := by
    intro B hB d
    induction d with
    | zero =>
      intro i k q s pk e y fk eB hk hs hr
      have f := y.f
      have : i = B := by omega
      subst this
      refine vc_52_49 tt _ _ _ _ _ _ _ ⟨f.2.1, fun _ => ⟨f.2.1, _, f.2.2.2.1, y.x (k := fun _ p => .ok ((i, pk), p)) (by rw [hr, lPS]; rfl) fun h2 e2 x2 r2 => ?_⟩, fun z => absurd (by rw [eB]; exact Int32.le_refl _) z⟩
      refine ⟨i, pk, q + 1, r2, x2, ?_, hB, ?_, ?_⟩
      · rw [e2]; exact fk.tr (rf.mv (by unfold Yp; omega))
      · rw [e2, cp_I, if_neg (by omega)]; exact eB
      · rw [e2]; exact hk
    | succ d ih =>
      intro i k q s pk e y fk eB hk hs hr
      have f := y.f
      have fI := f.2.2.2.2.2.2.2.2.1
      have i6 : i < 6 := by omega
      have nx : ∀ (v q2 : Nat) (h2 : am_H), v ≤ 2400 → CX tt h0 cd bb wa wt n h2 q2 → rf cd Xp Yp k h2 → (am_A h2 (cd 42) = am_A k (cd 42)) → am_I h2 5 1 (cd 32) = Int32.ofNat B → r = bd (lPS (FF cd wt h0) n off d (i + 1) q2 (s + v) (va_up pk i v)) (fun pk p => bd (tX (FF cd wt h0) n p 0) fun _ p => .ok ((B, pk), p)) → am_Ev tt 52 49 [some (.ref (cd 32)), some (.long (Int64.ofNat off)), none, some (.long (Int64.ofNat (s + v))), none, some (.int (Int32.ofNat (i + 1))), none] [] (am_sA h2 (cd 42) i (Int32.ofNat v)) (am_pV (fun h' => ∃ B pk p', r = .ok ((B, pk), p') ∧ CX tt h0 cd bb wa wt n h' p' ∧ rf cd Xp Yp h h' ∧ B ≤ 6 ∧ am_I h' 5 1 (cd 32) = Int32.ofNat B ∧ ∀ b, b < B → am_A h' (cd 42) b = Int32.ofNat (pk b) ∧ pk b ≤ 2400) (ER cd wa h0 r)) := by
        intro v q2 h2 hv x2 f2 ea eI r2
        refine ih (i + 1) _ q2 (s + v) (va_up pk i v) (by omega) (x2.on (rf.sA (by unfold XA; omega)) rfl rfl (fun _ _ => rfl)) ((fk.tr f2).tr (rf.sA rfl)) eI (fun j hj => ?_) (by omega) r2
        simp only [am_hs, true_and, and_true, and_self, true_or, or_true, false_or, or_false, false_and, and_false, not_true_eq_false, not_false_eq_true, Classical.not_not, true_implies, false_implies, implies_true, exists_eq_left, exists_eq_left', Option.some.injEq, reduceIte, Nat.reduceEqDiff, Nat.reduceLT, Nat.reduceLeDiff, Nat.reduceAdd, Nat.reduceSub, Nat.reduceMul, eq_self, ne_eq, and_imp, forall_const, reduceCtorEq, am_w, List.map_cons, List.map_nil, List.sum_cons, List.sum_nil, Value.category, Nat.zero_le, Nat.le_refl]
        unfold va_up
        by_cases c : j = i
        · rw [if_pos c, if_pos c]; exact ⟨rfl, hv⟩
        · rw [if_neg c, if_neg c, ea]; exact hk j (by omega)
      refine vc_52_49 tt _ _ _ _ _ _ _ ?_
      simp (disch := omega) only [f, eB, qi_lt, qi_le, qi_eq, qi_nn, qi_in, qi_add, qi_l, ql_i, ql_lt, ql_le, ql_eq, ql_add, qc_lt, qc_eq, qc_ge, qc_gt, qc_le, true_and, and_true, and_self, true_or, or_true, false_or, or_false, false_and, and_false, not_true_eq_false, not_false_eq_true, Classical.not_not, true_implies, false_implies, implies_true, exists_eq_left, exists_eq_left', Option.some.injEq, reduceIte, Nat.reduceEqDiff, Nat.reduceLT, Nat.reduceLeDiff, Nat.reduceAdd, Nat.reduceSub, Nat.reduceMul, eq_self, ne_eq, and_imp, forall_const, reduceCtorEq, am_w, List.map_cons, List.map_nil, List.sum_cons, List.sum_nil, Value.category, Nat.zero_le, Nat.le_refl]
      refine ⟨fun z => by omega, fun _ => (y.nu (l := l64 1) (m := l64 2400) (k := fun v p' => bd (if d = 0 ∧ ¬ s + v.toNatClampNeg = off then .error (5, q) else lPS (FF cd wt h0) n off d (i + 1) p' (s + v.toNatClampNeg) (va_up pk i v.toNatClampNeg)) (fun pk p => bd (tX (FF cd wt h0) n p 0) fun _ p => .ok ((B, pk), p))) (by rw [hr, lPS, bd_as]) fun v q2 h2 ev e2 x2 r2 => ?_).2⟩
      obtain ⟨w, rfl, w1, w2, w3⟩ := tN_n (by decide) (by decide) ev
      rw [w3] at r2
      have F2 := x2.f
      have eB2 : am_I h2 5 1 (cd 32) = Int32.ofNat B := by rw [e2, cp_I, if_neg (by omega)]; exact eB
      have fk2 : rf cd Xp Yp k h2 := by rw [e2]; exact rf.mv (by unfold Yp; omega)
      have ea : am_A h2 (cd 42) = am_A k (cd 42) := by rw [e2]; rfl
      simp (disch := omega) only [F2, eB2, i6, qi_sub, am_hs, qi_lt, qi_le, qi_eq, qi_nn, qi_in, qi_add, qi_l, ql_i, ql_lt, ql_le, ql_eq, ql_add, qc_lt, qc_eq, qc_ge, qc_gt, qc_le, true_and, and_true, and_self, true_or, or_true, false_or, or_false, false_and, and_false, not_true_eq_false, not_false_eq_true, Classical.not_not, true_implies, false_implies, implies_true, exists_eq_left, exists_eq_left', Option.some.injEq, reduceIte, Nat.reduceEqDiff, Nat.reduceLT, Nat.reduceLeDiff, Nat.reduceAdd, Nat.reduceSub, Nat.reduceMul, eq_self, ne_eq, and_imp, forall_const, reduceCtorEq, am_w, List.map_cons, List.map_nil, List.sum_cons, List.sum_nil, Value.category, Nat.zero_le, Nat.le_refl]
      refine ⟨fun z => vc_52_124 tt _ _ _ _ _ _ _ ?_, fun z => ⟨fun z2 => vc_52_124 tt _ _ _ _ _ _ _ ?_, fun z2 => ?_⟩⟩
      · rw [qi_add]
        rw [if_neg (by omega)] at r2
        exact nx w q2 h2 w2 x2 fk2 ea eB2 r2
      · rw [qi_add]
        rw [if_neg (by omega)] at r2
        exact nx w q2 h2 w2 x2 fk2 ea eB2 r2
      · rw [if_pos ⟨by omega, z2⟩] at r2
        have x3 : CX tt h0 cd bb wa wt n (am_sA h2 (cd 42) i (Int32.ofNat w)) q2 := x2.on (rf.sA (by unfold XA; omega)) rfl rfl (fun _ _ => rfl)
        exact ⟨_, _, x3.fa (f := 5) (pl := q) r2, fun _ z => z.elim, fun _ _ z => z⟩
  have f := x.f
  unfold pPS at hr
  refine vc_52_0 tt _ _ h _ _ ⟨f.2.1, _, f.2.2.2.1, x.x hr fun h1 e1 x1 r1 => ⟨x1.f.2.1, _, x1.f.2.2.2.1, x1.nu r1 fun v q2 h2 ev e2 x2 r2 => ⟨x2.f.2.1, _, x2.f.2.2.2.1, x2.nu r2 fun v q3 h3 ev e3 x3 r3 => ?_⟩⟩⟩
  obtain ⟨B, rfl, w1, w2, w3⟩ := tN_n (by decide) (by decide) ev
  rw [w3] at r3
  rw [ql_i]
  have F3 := x3.f
  have x4 : CX tt h0 cd bb wa wt n (am_sI h3 5 1 (cd 32) (Int32.ofNat B)) q3 := x3.on (rf.sI (by unfold YA; omega)) rfl rfl (fun g hg => by simp only [am_hs]; rw [if_neg (by omega)])
  refine ⟨F3.2.1, F3.2.1, _, F3.2.2.2.1, x4.x r3 fun h5 e5 x5 r5 => loop B w2 B 0 h5 _ 0 _ (by omega) x5 ?_ ?_ (fun j hj => absurd hj (Nat.not_lt_zero j)) (by omega) r5⟩
  · rw [e5]
    refine rf.tr ?_ (rf.mv (by unfold Yp; omega))
    refine rf.tr ?_ (rf.sI (by unfold Yp; omega))
    rw [e3]
    refine rf.tr ?_ (rf.mv (by unfold Yp; omega))
    rw [e2]
    refine rf.tr ?_ (rf.mv (by unfold Yp; omega))
    rw [e1]
    exact rf.mv (by unfold Yp; omega)
  · rw [e5, cp_I, if_neg (by omega)]
    simp only [am_hs, true_and, and_true, and_self, true_or, or_true, false_or, or_false, false_and, and_false, not_true_eq_false, not_false_eq_true, Classical.not_not, true_implies, false_implies, implies_true, exists_eq_left, exists_eq_left', Option.some.injEq, reduceIte, Nat.reduceEqDiff, Nat.reduceLT, Nat.reduceLeDiff, Nat.reduceAdd, Nat.reduceSub, Nat.reduceMul, eq_self, ne_eq, and_imp, forall_const, reduceCtorEq, am_w, List.map_cons, List.map_nil, List.sum_cons, List.sum_nil, Value.category, Nat.zero_le, Nat.le_refl]
/-- many bytes -/
theorem ct_kindOf {ib pr : Nat} {id : Int32} (h1 : ib ≤ 4) (h2 : pr ≤ 4) : am_Ct tt 56 [.int (Int32.ofNat ib), .int id, .int (Int32.ofNat pr)] h (am_pI (fun v h' => h' = h ∧ v = kdF ib id pr) no_x) := by
  refine vc_56_0 tt _ _ _ h _ _ ?_
  unfold kdF
  have hib : ib = 0 ∨ ib = 1 ∨ ib = 2 ∨ ib = 3 ∨ ib = 4 := by omega
  have hpr : pr = 0 ∨ pr = 1 ∨ 2 ≤ pr := by omega
  rcases hib with rfl | rfl | rfl | rfl | rfl <;> rcases hpr with rfl | rfl | hp <;> simp (disch := omega) only [qi_lt, qi_le, qi_eq, qi_nn, qi_in, qi_add, qi_l, ql_i, ql_lt, ql_le, ql_eq, ql_add, qc_lt, qc_eq, qc_ge, qc_gt, qc_le, true_and, and_true, and_self, true_or, or_true, false_or, or_false, false_and, and_false, not_true_eq_false, not_false_eq_true, Classical.not_not, true_implies, false_implies, implies_true, exists_eq_left, exists_eq_left', Option.some.injEq, reduceIte, Nat.reduceEqDiff, Nat.reduceLT, Nat.reduceLeDiff, Nat.reduceAdd, Nat.reduceSub, Nat.reduceMul, eq_self, ne_eq, and_imp, forall_const, reduceCtorEq, am_w, List.map_cons, List.map_nil, List.sum_cons, List.sum_nil, Value.category, Nat.zero_le, Nat.le_refl] <;> grind
def Xk (k : Nat) : Prop := k = 51 ∨ k = 52
theorem ct_takeCoder (x : CX tt h0 cd bb wa wt n h p) {c : Nat} (hc : c < 3) {r : Except pe ((Int32 × Int32) × Nat)} (hr : r = pCo (FF cd wt h0) n p) : am_Ct tt 55 [.ref (cd 32), .int (Int32.ofNat c)] h (am_pV (fun h' => ∃ kd p', r = .ok (kd, p') ∧ CX tt h0 cd bb wa wt n h' p' ∧ rf cd Xk Yc h h' ∧ am_A h' (cd 51) = va_up (am_A h (cd 51)) c kd.1 ∧ am_A h' (cd 52) = va_up (am_A h (cd 52)) c kd.2) (ER cd wa h0 r)) := by
  have ci := x.ci
  have n12 : cd 51 ≠ cd 52 := fun e => by have := ci.1 _ _ e; omega
  have f := x.f
  -- the end
  have fin : ∀ (k : am_H) (q ib pr : Nat) (id pp : Int32), ib ≤ 4 → pr ≤ 4 → CX tt h0 cd bb wa wt n k q → rf cd Xk Yc h k → am_A k (cd 51) = am_A h (cd 51) → am_A k (cd 52) = am_A h (cd 52) → r = .ok ((kdF ib id pr, pp + Int32.ofNat 1), q) →
      am_Ev tt 55 113 [some (.ref (cd 32)), some (.int (Int32.ofNat c)), none, some (.int (Int32.ofNat ib)), some (.int id), some (.int (Int32.ofNat pr)), some (.int pp), none] [] k (am_pV (fun h' => ∃ kd p', r = .ok (kd, p') ∧ CX tt h0 cd bb wa wt n h' p' ∧ rf cd Xk Yc h h' ∧ am_A h' (cd 51) = va_up (am_A h (cd 51)) c kd.1 ∧ am_A h' (cd 52) = va_up (am_A h (cd 52)) c kd.2) (ER cd wa h0 r)) := by
    intro k q ib pr id pp h1 h2 y fk a1 a2 er
    have F := y.f
    refine vc_55_113 tt _ _ _ _ _ _ _ _ _ ?_
    simp (disch := omega) only [F, am_hs, qi_lt, qi_le, qi_eq, qi_nn, qi_in, qi_add, qi_l, ql_i, ql_lt, ql_le, ql_eq, ql_add, qc_lt, qc_eq, qc_ge, qc_gt, qc_le, true_and, and_true, and_self, true_or, or_true, false_or, or_false, false_and, and_false, not_true_eq_false, not_false_eq_true, Classical.not_not, true_implies, false_implies, implies_true, exists_eq_left, exists_eq_left', Option.some.injEq, reduceIte, Nat.reduceEqDiff, Nat.reduceLT, Nat.reduceLeDiff, Nat.reduceAdd, Nat.reduceSub, Nat.reduceMul, eq_self, ne_eq, and_imp, forall_const, reduceCtorEq, am_w, List.map_cons, List.map_nil, List.sum_cons, List.sum_nil, Value.category, Nat.zero_le, Nat.le_refl]
    refine ⟨_, _, ct_kindOf h1 h2, fun v k' e' => ?_, fun _ _ z => z.elim⟩
    obtain ⟨ek, rfl⟩ := e'
    subst ek
    simp (disch := omega) only [F, hc, am_hs, qi_lt, qi_le, qi_eq, qi_nn, qi_in, qi_add, qi_l, ql_i, ql_lt, ql_le, ql_eq, ql_add, qc_lt, qc_eq, qc_ge, qc_gt, qc_le, true_and, and_true, and_self, true_or, or_true, false_or, or_false, false_and, and_false, not_true_eq_false, not_false_eq_true, Classical.not_not, true_implies, false_implies, implies_true, exists_eq_left, exists_eq_left', Option.some.injEq, reduceIte, Nat.reduceEqDiff, Nat.reduceLT, Nat.reduceLeDiff, Nat.reduceAdd, Nat.reduceSub, Nat.reduceMul, eq_self, ne_eq, and_imp, forall_const, reduceCtorEq, am_w, List.map_cons, List.map_nil, List.sum_cons, List.sum_nil, Value.category, Nat.zero_le, Nat.le_refl]
    refine ⟨_, _, er, y.on ((rf.sA (by unfold XA; omega)).tr (rf.sA (by unfold XA; omega))) rfl rfl (fun _ _ => rfl), (fk.tr (rf.sA (Or.inl rfl))).tr (rf.sA (Or.inr rfl)), ?_, ?_⟩
    · funext j
      simp only [am_hs]
      rw [if_neg (fun z => n12 z.1), a1]
      unfold va_up
      simp only [true_and, and_true, and_self, true_or, or_true, false_or, or_false, false_and, and_false, not_true_eq_false, not_false_eq_true, Classical.not_not, true_implies, false_implies, implies_true, exists_eq_left, exists_eq_left', Option.some.injEq, reduceIte, Nat.reduceEqDiff, Nat.reduceLT, Nat.reduceLeDiff, Nat.reduceAdd, Nat.reduceSub, Nat.reduceMul, eq_self, ne_eq, and_imp, forall_const, reduceCtorEq, am_w, List.map_cons, List.map_nil, List.sum_cons, List.sum_nil, Value.category, Nat.zero_le, Nat.le_refl]
    · funext j
      simp only [am_hs]
      unfold va_up
      simp only [true_and, and_true, and_self, true_or, or_true, false_or, or_false, false_and, and_false, not_true_eq_false, not_false_eq_true, Classical.not_not, true_implies, false_implies, implies_true, exists_eq_left, exists_eq_left', Option.some.injEq, reduceIte, Nat.reduceEqDiff, Nat.reduceLT, Nat.reduceLeDiff, Nat.reduceAdd, Nat.reduceSub, Nat.reduceMul, eq_self, ne_eq, and_imp, forall_const, reduceCtorEq, am_w, List.map_cons, List.map_nil, List.sum_cons, List.sum_nil, Value.category, Nat.zero_le, Nat.le_refl]
      by_cases z : j = c
      · rw [if_pos z, if_pos z]
      · rw [if_neg z, if_neg z, if_neg (fun w => n12 w.1.symm), a2]
  unfold pCo at hr
  refine vc_55_0 tt _ _ h _ _ ⟨f.2.1, _, f.2.2.2.1, x.b hr fun v h1 hp ev e1 x1 r1 => ?_⟩
  -- v & ~32
  have hv : ∃ b, b < 256 ∧ v &&& (-33 : Int32) = Int32.ofNat b ∧ (v &&& (-33 : Int32)).toNatClampNeg = b := by
    have : ∀ x : BitVec 32, x &&& 255#32 &&& (Int32.toBitVec (-33)) = BitVec.ofNat 32 ((x &&& 255#32 &&& (Int32.toBitVec (-33))).toNat % 256) := by
      intro x
      apply BitVec.eq_of_toNat_eq
      have h1 : (x &&& 255#32 &&& (Int32.toBitVec (-33))).toNat ≤ 255 := by
        rw [BitVec.toNat_and, BitVec.toNat_and]
        exact Nat.le_trans Nat.and_le_left (Nat.le_trans Nat.and_le_right (by decide))
      rw [BitVec.toNat_ofNat]
      omega
    refine ⟨(v.toBitVec &&& (Int32.toBitVec (-33))).toNat % 256, Nat.mod_lt _ (by decide), ?_, ?_⟩
    · apply Int32.toBitVec_inj.1
      rw [ev, Int32.toBitVec_and, Int32.toBitVec_and]
      exact this _
    · rw [show v &&& (-33 : Int32) = Int32.ofNat ((v.toBitVec &&& (Int32.toBitVec (-33))).toNat % 256) from by
        apply Int32.toBitVec_inj.1
        rw [ev, Int32.toBitVec_and, Int32.toBitVec_and]
        exact this _]
      exact qi_nn (by omega)
  obtain ⟨ib, hib, eib, eib'⟩ := hv
  rw [eib'] at r1
  rw [eib] at r1 ⊢
  have X1 : rf cd Xk Yc h h1 := by rw [e1]; exact rf.mv ⟨rfl, rfl, rfl⟩
  have a1 : am_A h1 = am_A h := by rw [e1]; rfl
  have bad : (ib < 1 ∨ 4 < ib) → am_Ev tt 55 23 [some (.ref (cd 32)), some (.int (Int32.ofNat c)), some (.int v), some (.int (Int32.ofNat ib)), none, none, none, none] [] h1 (am_pV (fun h' => ∃ kd p', r = .ok (kd, p') ∧ CX tt h0 cd bb wa wt n h' p' ∧ rf cd Xk Yc h h' ∧ am_A h' (cd 51) = va_up (am_A h (cd 51)) c kd.1 ∧ am_A h' (cd 52) = va_up (am_A h (cd 52)) c kd.2) (ER cd wa h0 r)) := by
    intro z
    rw [if_pos z] at r1
    have F1 := x1.f
    exact vc_55_23 tt _ _ _ _ _ _ _ ⟨F1.2.1, _, F1.2.2.2.1, F1.1, _, _, x1.fl (by omega) (by rw [r1]; congr 2), fun _ z => z.elim, fun _ _ z => z⟩
  simp (disch := omega) only [qi_lt, qi_le, qi_eq, qi_nn, qi_in, qi_add, qi_l, ql_i, ql_lt, ql_le, ql_eq, ql_add, qc_lt, qc_eq, qc_ge, qc_gt, qc_le]
  refine ⟨fun z => bad (by omega), fun z => ⟨fun z2 => vc_55_30 tt _ _ _ _ _ _ _ ?_, fun z2 => bad (by omega)⟩⟩
  rw [if_neg (by omega)] at r1
  -- the properties
  have props : ∀ (k : am_H), ib ≤ 4 → p + 1 + ib ≤ n → CX tt h0 cd bb wa wt n k (p + 1 + ib) → rf cd Xk Yc h k → am_A k = am_A h → r = (if v = Int32.ofNat ib then .ok ((kdF ib (idn (FF cd wt h0) (p + 1) ib) 0, Int32.ofNat 1), p + 1 + ib) else bd (tN (FF cd wt h0) n (p + 1 + ib) (l64 1) (l64 4)) fun k p3 => bd (tK n p3 k.toNatClampNeg) fun _ p4 => .ok ((kdF ib (idn (FF cd wt h0) (p + 1) ib) k.toNatClampNeg, (FF cd wt h0 (p4 - 1) &&& Int32.ofNat 255) + Int32.ofNat 1), p4)) →
      am_Ev tt 55 36 [some (.ref (cd 32)), some (.int (Int32.ofNat c)), some (.int v), some (.int (Int32.ofNat ib)), some (.int (idn (FF cd wt h0) (p + 1) ib)), some (.int (Int32.ofNat ib)), none, none] [] k (am_pV (fun h' => ∃ kd p', r = .ok (kd, p') ∧ CX tt h0 cd bb wa wt n h' p' ∧ rf cd Xk Yc h h' ∧ am_A h' (cd 51) = va_up (am_A h (cd 51)) c kd.1 ∧ am_A h' (cd 52) = va_up (am_A h (cd 52)) c kd.2) (ER cd wa h0 r)) := by
    intro k h4 hn y fk ea er
    have F := y.f
    refine vc_55_36 tt _ _ _ _ _ _ _ _ _ ⟨fun _ => ⟨fun z => ?_, fun z => ?_⟩, fun z => absurd (Int32.le_refl _) z⟩
    · rw [if_pos z] at er
      exact fin k _ ib 0 _ (Int32.ofNat 0) h4 (by omega) y fk (by rw [ea]) (by rw [ea]) er
    · rw [if_neg z] at er
      refine ⟨F.2.1, _, F.2.2.2.1, y.nu er fun w q2 h2 ew e2 x2 r2 => ?_⟩
      obtain ⟨pr, rfl, w1, w2, w3⟩ := tN_n (by decide) (by decide) ew
      rw [w3] at r2
      rw [ql_i]
      have lp : ∀ (d i : Nat) (k2 : am_H) (pp : Int32), d + i = pr → q2 + i ≤ n → CX tt h0 cd bb wa wt n k2 (q2 + i) → rf cd Xk Yc h k2 → am_A k2 = am_A h → (i = 0 ∨ pp = FF cd wt h0 (q2 + i - 1) &&& Int32.ofNat 255) →
          am_Ev tt 55 91 [some (.ref (cd 32)), some (.int (Int32.ofNat c)), none, some (.int (Int32.ofNat ib)), some (.int (idn (FF cd wt h0) (p + 1) ib)), some (.int (Int32.ofNat pr)), some (.int pp), some (.int (Int32.ofNat i))] [] k2 (am_pV (fun h' => ∃ kd p', r = .ok (kd, p') ∧ CX tt h0 cd bb wa wt n h' p' ∧ rf cd Xk Yc h h' ∧ am_A h' (cd 51) = va_up (am_A h (cd 51)) c kd.1 ∧ am_A h' (cd 52) = va_up (am_A h (cd 52)) c kd.2) (ER cd wa h0 r)) := by
        intro d
        induction d with
        | zero =>
          intro i k2 pp e hn2 y2 fk2 ea2 hpp
          have : i = pr := by omega
          subst this
          rw [tK, if_pos hn2] at r2
          refine vc_55_91 tt _ _ _ _ _ _ _ _ _ _ ⟨fun _ => fin k2 _ ib i _ pp h4 w2 y2 fk2 (by rw [ea2]) (by rw [ea2]) ?_, fun z => absurd (Int32.le_refl _) z⟩
          rw [r2, bd_ok rfl, hpp.resolve_left (by omega)]
        | succ d ih =>
          intro i k2 pp e hn2 y2 fk2 ea2 hpp
          have F2 := y2.f
          refine vc_55_91 tt _ _ _ _ _ _ _ _ _ _ ?_
          simp (disch := omega) only [F2, qi_lt, qi_le, qi_eq, qi_nn, qi_in, qi_add, qi_l, ql_i, ql_lt, ql_le, ql_eq, ql_add, qc_lt, qc_eq, qc_ge, qc_gt, qc_le, true_and, and_true, and_self, true_or, or_true, false_or, or_false, false_and, and_false, not_true_eq_false, not_false_eq_true, Classical.not_not, true_implies, false_implies, implies_true, exists_eq_left, exists_eq_left', Option.some.injEq, reduceIte, Nat.reduceEqDiff, Nat.reduceLT, Nat.reduceLeDiff, Nat.reduceAdd, Nat.reduceSub, Nat.reduceMul, eq_self, ne_eq, and_imp, forall_const, reduceCtorEq, am_w, List.map_cons, List.map_nil, List.sum_cons, List.sum_nil, Value.category, Nat.zero_le, Nat.le_refl]
          refine ⟨fun z => by omega, fun _ => ?_⟩
          by_cases hs : q2 + i < n
          · have := y2.b (r := bd (tB (FF cd wt h0) n (q2 + i)) (fun _ _ => r)) rfl (G := fun v' h3 => am_Ev tt 55 91 [some (.ref (cd 32)), some (.int (Int32.ofNat c)), none, some (.int (Int32.ofNat ib)), some (.int (idn (FF cd wt h0) (p + 1) ib)), some (.int (Int32.ofNat pr)), some (.int v'), some (.int (Int32.ofNat (i + 1)))] [] h3 (am_pV (fun h' => ∃ kd p', r = .ok (kd, p') ∧ CX tt h0 cd bb wa wt n h' p' ∧ rf cd Xk Yc h h' ∧ am_A h' (cd 51) = va_up (am_A h (cd 51)) c kd.1 ∧ am_A h' (cd 52) = va_up (am_A h (cd 52)) c kd.2) (ER cd wa h0 r))) fun v' h3 hp' ev' e3 x3 _ => ih (i + 1) h3 v' (by omega) (by omega) x3 (by rw [e3]; exact fk2.tr (rf.mv ⟨rfl, rfl, rfl⟩)) (by rw [e3]; exact ea2) (Or.inr ev')
            rw [tB, if_pos hs] at this
            exact this.2
          · have er2 : r = .error (1, n) := by rw [r2, bd_er (e := (1, n))]; rw [tK, if_neg (by omega)]
            have := y2.b (k := fun _ _ => r) (r := r) (by rw [tB, if_neg hs]; exact er2) (G := fun v' h3 => am_Ev tt 55 91 [some (.ref (cd 32)), some (.int (Int32.ofNat c)), none, some (.int (Int32.ofNat ib)), some (.int (idn (FF cd wt h0) (p + 1) ib)), some (.int (Int32.ofNat pr)), some (.int v'), some (.int (Int32.ofNat (i + 1)))] [] h3 (am_pV (fun h' => ∃ kd p', r = .ok (kd, p') ∧ CX tt h0 cd bb wa wt n h' p' ∧ rf cd Xk Yc h h' ∧ am_A h' (cd 51) = va_up (am_A h (cd 51)) c kd.1 ∧ am_A h' (cd 52) = va_up (am_A h (cd 52)) c kd.2) (ER cd wa h0 r))) fun v' h3 hp' _ _ _ _ => absurd hp' hs
            exact this.2
      exact lp pr 0 h2 (Int32.ofNat 0) (by omega) (by have := (tN_p ew).2.1; omega) x2 (by rw [e2]; exact fk.tr (rf.mv ⟨rfl, rfl, rfl⟩)) (by rw [e2]; exact ea) (Or.inl rfl)
  -- the id
  have ids : ∀ (d i : Nat) (k2 : am_H), d + i = ib → p + 1 + i ≤ n → CX tt h0 cd bb wa wt n k2 (p + 1 + i) → rf cd Xk Yc h k2 → am_A k2 = am_A h →
      am_Ev tt 55 36 [some (.ref (cd 32)), some (.int (Int32.ofNat c)), some (.int v), some (.int (Int32.ofNat ib)), some (.int (idn (FF cd wt h0) (p + 1) i)), some (.int (Int32.ofNat i)), none, none] [] k2 (am_pV (fun h' => ∃ kd p', r = .ok (kd, p') ∧ CX tt h0 cd bb wa wt n h' p' ∧ rf cd Xk Yc h h' ∧ am_A h' (cd 51) = va_up (am_A h (cd 51)) c kd.1 ∧ am_A h' (cd 52) = va_up (am_A h (cd 52)) c kd.2) (ER cd wa h0 r)) := by
    intro d
    induction d with
    | zero =>
      intro i k2 e hn2 y2 fk2 ea2
      have : i = ib := by omega
      subst this
      rw [tK, if_pos hn2, bd_ok rfl] at r1
      exact props k2 (by omega) hn2 y2 fk2 ea2 r1
    | succ d ih =>
      intro i k2 e hn2 y2 fk2 ea2
      have F2 := y2.f
      refine vc_55_36 tt _ _ _ _ _ _ _ _ _ ?_
      simp (disch := omega) only [F2, qi_lt, qi_le, qi_eq, qi_nn, qi_in, qi_add, qi_l, ql_i, ql_lt, ql_le, ql_eq, ql_add, qc_lt, qc_eq, qc_ge, qc_gt, qc_le, true_and, and_true, and_self, true_or, or_true, false_or, or_false, false_and, and_false, not_true_eq_false, not_false_eq_true, Classical.not_not, true_implies, false_implies, implies_true, exists_eq_left, exists_eq_left', Option.some.injEq, reduceIte, Nat.reduceEqDiff, Nat.reduceLT, Nat.reduceLeDiff, Nat.reduceAdd, Nat.reduceSub, Nat.reduceMul, eq_self, ne_eq, and_imp, forall_const, reduceCtorEq, am_w, List.map_cons, List.map_nil, List.sum_cons, List.sum_nil, Value.category, Nat.zero_le, Nat.le_refl]
      refine ⟨fun z => by omega, fun _ => ?_⟩
      by_cases hs : p + 1 + i < n
      · have := y2.b (r := bd (tB (FF cd wt h0) n (p + 1 + i)) (fun _ _ => r)) rfl (G := fun v' h3 => am_Ev tt 55 36 [some (.ref (cd 32)), some (.int (Int32.ofNat c)), some (.int v), some (.int (Int32.ofNat ib)), some (.int ((idn (FF cd wt h0) (p + 1) i <<< (Int32.ofNat 8 &&& 31)) ||| v')), some (.int (Int32.ofNat (i + 1))), none, none] [] h3 (am_pV (fun h' => ∃ kd p', r = .ok (kd, p') ∧ CX tt h0 cd bb wa wt n h' p' ∧ rf cd Xk Yc h h' ∧ am_A h' (cd 51) = va_up (am_A h (cd 51)) c kd.1 ∧ am_A h' (cd 52) = va_up (am_A h (cd 52)) c kd.2) (ER cd wa h0 r))) fun v' h3 hp' ev' e3 x3 _ => by
          have := ih (i + 1) h3 (by omega) (by omega) x3 (by rw [e3]; exact fk2.tr (rf.mv ⟨rfl, rfl, rfl⟩)) (by rw [e3]; exact ea2)
          rw [idn, ← ev'] at this
          exact this
        rw [tB, if_pos hs] at this
        exact this.2
      · have er2 : r = .error (1, n) := by rw [r1, bd_er (e := (1, n))]; rw [tK, if_neg (by omega)]
        have := y2.b (k := fun _ _ => r) (r := r) (by rw [tB, if_neg hs]; exact er2) (G := fun v' h3 => am_Ev tt 55 36 [some (.ref (cd 32)), some (.int (Int32.ofNat c)), some (.int v), some (.int (Int32.ofNat ib)), some (.int ((idn (FF cd wt h0) (p + 1) i <<< (Int32.ofNat 8 &&& 31)) ||| v')), some (.int (Int32.ofNat (i + 1))), none, none] [] h3 (am_pV (fun h' => ∃ kd p', r = .ok (kd, p') ∧ CX tt h0 cd bb wa wt n h' p' ∧ rf cd Xk Yc h h' ∧ am_A h' (cd 51) = va_up (am_A h (cd 51)) c kd.1 ∧ am_A h' (cd 52) = va_up (am_A h (cd 52)) c kd.2) (ER cd wa h0 r))) fun v' h3 hp' _ _ _ _ => absurd hp' hs
        exact this.2
  exact ids ib 0 h1 (by omega) (by omega) x1 X1 a1
end RB
