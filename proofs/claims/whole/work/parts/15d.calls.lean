/-! deps: 15c -/
/-! ===== the class's calls: entries ===== -/
/-! 104 yX9_entry -/
theorem vc_104_0 (tt : Nat → Nat) (a0 : Nat) (a1 : Int32) (h : am_H) (Q : Int32 → am_H → Prop) (Qx : String → am_H → Prop) (q :
  ((a1 = (Int32.ofNat 0) →
   (am_K h a0 = 10 ∧ ∃ q1, am_R h 9 0 a0 = some q1 ∧
   (am_K h q1 = 1 ∧
   (((am_I h 0 1 q1) < (Int32.ofNat 24) →
    (am_K h a0 = 10 ∧ ∃ q2, am_R h 9 0 a0 = some q2 ∧
    (am_K h q2 = 1 ∧ ∃ (Q4 : am_H → Prop) (X4 : String → am_H → Prop), am_Ct tt 2 [.ref q2, .int a1] h (am_pV Q4 X4) ∧ (∀ h3, Q4 h3 →
     (am_K h3 a0 = 10 ∧ ∃ q5, am_R h3 9 0 a0 = some q5 ∧
     (am_K h3 q5 = 1 ∧
     Q ((am_I h3 0 1 q5) - (Int32.ofNat 1)) h3))) ∧ (∀ E6 h3, X4 E6 h3 → Qx E6 h3)))) ∧
   (¬ ((am_I h 0 1 q1) < (Int32.ofNat 24)) →
    Q (-4 : Int32) h))))) ∧
  (¬ (a1 = (Int32.ofNat 0)) →
   ((a1 = (Int32.ofNat 1) →
    (am_K h a0 = 10 ∧ ∃ q7, am_R h 9 0 a0 = some q7 ∧
    (am_K h q7 = 1 ∧
    (((am_I h 0 1 q7) < (Int32.ofNat 24) →
     (am_K h a0 = 10 ∧ ∃ q8, am_R h 9 0 a0 = some q8 ∧
     (am_K h q8 = 1 ∧ ∃ (Q10 : am_H → Prop) (X10 : String → am_H → Prop), am_Ct tt 2 [.ref q8, .int a1] h (am_pV Q10 X10) ∧ (∀ h9, Q10 h9 →
      (am_K h9 a0 = 10 ∧ ∃ q11, am_R h9 9 0 a0 = some q11 ∧
      (am_K h9 q11 = 1 ∧
      Q ((am_I h9 0 1 q11) - (Int32.ofNat 1)) h9))) ∧ (∀ E12 h9, X10 E12 h9 → Qx E12 h9)))) ∧
    (¬ ((am_I h 0 1 q7) < (Int32.ofNat 24)) →
     Q (-4 : Int32) h))))) ∧
   (¬ (a1 = (Int32.ofNat 1)) →
    Q (-2 : Int32) h))))) :
  am_Ev tt 104 0 [some (.ref a0), some (.int a1)] [] h (am_pI Q Qx) := am_vc 22 [] q

/-! 105 yX9_name -/
theorem vc_105_0 (tt : Nat → Nat) (a0 : Nat) (a1 : Int32) (a2 : Int32) (h : am_H) (Q : Int32 → am_H → Prop) (Qx : String → am_H → Prop) (q :
  (am_K h a0 = 10 ∧ ∃ q1, am_R h 9 0 a0 = some q1 ∧
  (am_K h q1 = 1 ∧ ∃ (Q3 : Option Nat → am_H → Prop) (X3 : String → am_H → Prop), am_Ct tt 3 [.ref q1, .int a1] h (am_pR Q3 X3) ∧ ((∀ q4 h2, Q3 (some q4) h2 →
   ((¬ a2 = (Int32.ofNat 0) →
    (am_K h2 q4 = 5 ∧
    (((am_I h2 4 1 q4) < (Int32.ofNat 20) →
     (am_K h2 q4 = 5 ∧ ∃ (Q6 : am_H → Prop) (X6 : String → am_H → Prop), am_Ct tt 44 [.ref q4, .int a2] h2 (am_pV Q6 X6) ∧ (∀ h5, Q6 h5 →
      (am_K h5 q4 = 5 ∧
      Q (am_I h5 4 1 q4) h5)) ∧ (∀ E7 h5, X6 E7 h5 → Qx E7 h5))) ∧
    (¬ ((am_I h2 4 1 q4) < (Int32.ofNat 20)) →
     Q (-4 : Int32) h2)))) ∧
   (¬ (¬ a2 = (Int32.ofNat 0)) →
    Q (-2 : Int32) h2))) ∧ (∀ h2, Q3 none h2 →
   Q (-2 : Int32) h2)) ∧ (∀ E8 h2, X3 E8 h2 → Qx E8 h2)))) :
  am_Ev tt 105 0 [some (.ref a0), some (.int a1), some (.int a2), none] [] h (am_pI Q Qx) := am_vc 21 [] q

/-! 107 yX9_block -/
theorem vc_107_0 (tt : Nat → Nat) (a0 : Nat) (a1 : Int32) (a2 : Int32) (h : am_H) (Q : Int32 → am_H → Prop) (Qx : String → am_H → Prop) (q :
  (am_K h a0 = 10 ∧ ∃ q1, am_R h 9 0 a0 = some q1 ∧
  (am_K h q1 = 1 ∧ ∃ (Q3 : Option Nat → am_H → Prop) (X3 : String → am_H → Prop), am_Ct tt 3 [.ref q1, .int a1] h (am_pR Q3 X3) ∧ ((∀ q4 h2, Q3 (some q4) h2 →
   (am_K h2 q4 = 5 ∧
   ((¬ (am_I h2 4 4 q4) = (Int32.ofNat 0) →
    Q (-2 : Int32) h2) ∧
   (¬ (¬ (am_I h2 4 4 q4) = (Int32.ofNat 0)) →
    ((a2 < (Int32.ofNat 0) →
     Q (-2 : Int32) h2) ∧
    (¬ (a2 < (Int32.ofNat 0)) →
     ((a2 < (Int32.ofNat 6) →
      (am_K h2 a0 = 10 ∧ ∃ q5, am_R h2 9 0 a0 = some q5 ∧
      (am_K h2 q4 = 5 ∧
      (am_K h2 q5 = 1 ∧ ∃ (Q7 : Int32 → am_H → Prop) (X7 : String → am_H → Prop), am_Ct tt 5 [.ref q5, .int (am_I h2 4 5 q4)] h2 (am_pI Q7 X7) ∧ (∀ x8 h6, Q7 x8 h6 →
       ((x8 = (Int32.ofNat 0) →
        Q (-3 : Int32) h6) ∧
       (¬ (x8 = (Int32.ofNat 0)) →
        (am_K h6 a0 = 10 ∧ ∃ q9, am_R h6 9 0 a0 = some q9 ∧
        (am_K h6 q9 = 1 ∧ ∃ (Q11 : Int32 → am_H → Prop) (X11 : String → am_H → Prop), am_Ct tt 5 [.ref q9, .int a2] h6 (am_pI Q11 X11) ∧ (∀ x12 h10, Q11 x12 h10 →
         ((¬ x12 = (Int32.ofNat 0) →
          (am_K h10 q4 = 5 ∧
          (am_K h10 q4 = 5 ∧
          Q (am_I h10 4 5 q4) (am_sI h10 4 5 q4 a2)))) ∧
         (¬ (¬ x12 = (Int32.ofNat 0)) →
          Q (-3 : Int32) h10))) ∧ (∀ E13 h10, X11 E13 h10 → Qx E13 h10)))))) ∧ (∀ E14 h6, X7 E14 h6 → Qx E14 h6))))) ∧
     (¬ (a2 < (Int32.ofNat 6)) →
      Q (-2 : Int32) h2)))))))) ∧ (∀ h2, Q3 none h2 →
   Q (-2 : Int32) h2)) ∧ (∀ E15 h2, X3 E15 h2 → Qx E15 h2)))) :
  am_Ev tt 107 0 [some (.ref a0), some (.int a1), some (.int a2), none, none] [] h (am_pI Q Qx) := am_vc 36 [] q

/-! 109 yX9_set -/
theorem vc_109_0 (tt : Nat → Nat) (a0 : Nat) (a1 : Int32) (a2 : Int32) (a3 : Int64) (h : am_H) (Q : Int32 → am_H → Prop) (Qx : String → am_H → Prop) (q :
  (am_K h a0 = 10 ∧ ∃ q1, am_R h 9 0 a0 = some q1 ∧
  (am_K h q1 = 1 ∧ ∃ (Q3 : Option Nat → am_H → Prop) (X3 : String → am_H → Prop), am_Ct tt 3 [.ref q1, .int a1] h (am_pR Q3 X3) ∧ ((∀ q4 h2, Q3 (some q4) h2 →
   ((a2 < (Int32.ofNat 0) →
    Q (-2 : Int32) h2) ∧
   (¬ (a2 < (Int32.ofNat 0)) →
    ((a2 ≤ (Int32.ofNat 4) →
     ((¬ a2 = (Int32.ofNat 0) →
      (((a2).toInt < 1 ∨ 3 < (a2).toInt →
       (am_K h2 q4 = 5 ∧ ((Int32.ofNat 0) = (Int32.ofNat 0) ∨ (Int32.ofNat 0) = (Int32.ofNat 1)) ∧
       Q (Int32.ofNat 1) (am_sI h2 4 9 q4 (Int32.ofNat 0)))) ∧
      ((a2).toInt = 1 →
       (am_K h2 q4 = 5 ∧ ∃ (Q6 : am_H → Prop) (X6 : String → am_H → Prop), am_Ct tt 45 [.ref q4, .long a3] h2 (am_pV Q6 X6) ∧ (∀ h5, Q6 h5 →
        Q (Int32.ofNat 1) h5) ∧ (∀ E7 h5, X6 E7 h5 → Qx E7 h5))) ∧
      ((a2).toInt = 2 →
       (am_K h2 q4 = 5 ∧ ((Int32.ofNat 0) = (Int32.ofNat 0) ∨ (Int32.ofNat 0) = (Int32.ofNat 1)) ∧
       Q (Int32.ofNat 1) (am_sI h2 4 7 q4 (Int32.ofNat 0)))) ∧
      ((a2).toInt = 3 →
       (am_K h2 q4 = 5 ∧ ∃ (Q9 : am_H → Prop) (X9 : String → am_H → Prop), am_Ct tt 46 [.ref q4, .int (a3).toInt32] h2 (am_pV Q9 X9) ∧ (∀ h8, Q9 h8 →
        Q (Int32.ofNat 1) h8) ∧ (∀ E10 h8, X9 E10 h8 → Qx E10 h8))) ∧
      True)) ∧
     (¬ (¬ a2 = (Int32.ofNat 0)) →
      (∃ (Q12 : Int32 → am_H → Prop) (X12 : String → am_H → Prop), am_Ct tt 110 [.ref q4, .long a3] h2 (am_pI Q12 X12) ∧ (∀ x13 h11, Q12 x13 h11 →
       Q x13 h11) ∧ (∀ E14 h11, X12 E14 h11 → Qx E14 h11))))) ∧
    (¬ (a2 ≤ (Int32.ofNat 4)) →
     Q (-2 : Int32) h2))))) ∧ (∀ h2, Q3 none h2 →
   Q (-2 : Int32) h2)) ∧ (∀ E15 h2, X3 E15 h2 → Qx E15 h2)))) :
  am_Ev tt 109 0 [some (.ref a0), some (.int a1), some (.int a2), some (.long a3), none, none] [] h (am_pI Q Qx) := am_vc 25 [] q

/-! 110 yX9_setAnti -/
theorem vc_110_0 (tt : Nat → Nat) (a0 : Nat) (a1 : Int64) (h : am_H) (Q : Int32 → am_H → Prop) (Qx : String → am_H → Prop) (q :
  (((lg_cmp a1 (Int64.ofNat 0)) = (Int32.ofNat 0) →
   ((¬ (lg_cmp a1 (Int64.ofNat 1)) = (Int32.ofNat 0) →
    ((¬ (lg_cmp a1 (Int64.ofNat 1)) = (Int32.ofNat 0) →
     (am_K h a0 = 5 ∧ ((Int32.ofNat 0) = (Int32.ofNat 0) ∨ (Int32.ofNat 0) = (Int32.ofNat 1)) ∧
     Q (Int32.ofNat 1) (am_sI h 4 6 a0 (Int32.ofNat 0)))) ∧
    (¬ (¬ (lg_cmp a1 (Int64.ofNat 1)) = (Int32.ofNat 0)) →
     (am_K h a0 = 5 ∧ ((Int32.ofNat 1) = (Int32.ofNat 0) ∨ (Int32.ofNat 1) = (Int32.ofNat 1)) ∧
     Q (Int32.ofNat 1) (am_sI h 4 6 a0 (Int32.ofNat 1)))))) ∧
   (¬ (¬ (lg_cmp a1 (Int64.ofNat 1)) = (Int32.ofNat 0)) →
    (am_K h a0 = 5 ∧
    (((am_I h 4 3 a0) ≤ (Int32.ofNat 0) →
     ((¬ (lg_cmp a1 (Int64.ofNat 1)) = (Int32.ofNat 0) →
      (am_K h a0 = 5 ∧ ((Int32.ofNat 0) = (Int32.ofNat 0) ∨ (Int32.ofNat 0) = (Int32.ofNat 1)) ∧
      Q (Int32.ofNat 1) (am_sI h 4 6 a0 (Int32.ofNat 0)))) ∧
     (¬ (¬ (lg_cmp a1 (Int64.ofNat 1)) = (Int32.ofNat 0)) →
      (am_K h a0 = 5 ∧ ((Int32.ofNat 1) = (Int32.ofNat 0) ∨ (Int32.ofNat 1) = (Int32.ofNat 1)) ∧
      Q (Int32.ofNat 1) (am_sI h 4 6 a0 (Int32.ofNat 1)))))) ∧
    (¬ ((am_I h 4 3 a0) ≤ (Int32.ofNat 0)) →
     Q (-3 : Int32) h)))))) ∧
  (¬ ((lg_cmp a1 (Int64.ofNat 0)) = (Int32.ofNat 0)) →
   (((lg_cmp a1 (Int64.ofNat 1)) = (Int32.ofNat 0) →
    ((¬ (lg_cmp a1 (Int64.ofNat 1)) = (Int32.ofNat 0) →
     ((¬ (lg_cmp a1 (Int64.ofNat 1)) = (Int32.ofNat 0) →
      (am_K h a0 = 5 ∧ ((Int32.ofNat 0) = (Int32.ofNat 0) ∨ (Int32.ofNat 0) = (Int32.ofNat 1)) ∧
      Q (Int32.ofNat 1) (am_sI h 4 6 a0 (Int32.ofNat 0)))) ∧
     (¬ (¬ (lg_cmp a1 (Int64.ofNat 1)) = (Int32.ofNat 0)) →
      (am_K h a0 = 5 ∧ ((Int32.ofNat 1) = (Int32.ofNat 0) ∨ (Int32.ofNat 1) = (Int32.ofNat 1)) ∧
      Q (Int32.ofNat 1) (am_sI h 4 6 a0 (Int32.ofNat 1)))))) ∧
    (¬ (¬ (lg_cmp a1 (Int64.ofNat 1)) = (Int32.ofNat 0)) →
     (am_K h a0 = 5 ∧
     (((am_I h 4 3 a0) ≤ (Int32.ofNat 0) →
      ((¬ (lg_cmp a1 (Int64.ofNat 1)) = (Int32.ofNat 0) →
       (am_K h a0 = 5 ∧ ((Int32.ofNat 0) = (Int32.ofNat 0) ∨ (Int32.ofNat 0) = (Int32.ofNat 1)) ∧
       Q (Int32.ofNat 1) (am_sI h 4 6 a0 (Int32.ofNat 0)))) ∧
      (¬ (¬ (lg_cmp a1 (Int64.ofNat 1)) = (Int32.ofNat 0)) →
       (am_K h a0 = 5 ∧ ((Int32.ofNat 1) = (Int32.ofNat 0) ∨ (Int32.ofNat 1) = (Int32.ofNat 1)) ∧
       Q (Int32.ofNat 1) (am_sI h 4 6 a0 (Int32.ofNat 1)))))) ∧
     (¬ ((am_I h 4 3 a0) ≤ (Int32.ofNat 0)) →
      Q (-3 : Int32) h)))))) ∧
   (¬ ((lg_cmp a1 (Int64.ofNat 1)) = (Int32.ofNat 0)) →
    Q (-2 : Int32) h))))) :
  am_Ev tt 110 0 [some (.ref a0), some (.long a1), none] [] h (am_pI Q Qx) := am_vc 27 [] q

/-! 113 yX9_fault -/
theorem vc_113_0 (tt : Nat → Nat) (a0 : Nat) (h : am_H) (Q : Int32 → am_H → Prop) (Qx : String → am_H → Prop) (q :
  (am_K h a0 = 10 ∧ ∃ q1, am_R h 9 5 a0 = some q1 ∧
  (am_K h q1 = 8 ∧ ∃ q2, am_R h 7 0 q1 = some q2 ∧
  (am_K h q2 = 3 ∧
  Q (am_I h 2 3 q2) h)))) :
  am_Ev tt 113 0 [some (.ref a0)] [] h (am_pI Q Qx) := am_vc 7 [] q

/-! 114 yX9_of -/
theorem vc_114_0 (tt : Nat → Nat) (a0 : Nat) (a1 : Int32) (a2 : Int32) (h : am_H) (Q : Int32 → am_H → Prop) (Qx : String → am_H → Prop) (q :
  (am_K h a0 = 10 ∧ ∃ q1, am_R h 9 0 a0 = some q1 ∧
  (am_K h q1 = 1 ∧ ∃ (Q3 : Option Nat → am_H → Prop) (X3 : String → am_H → Prop), am_Ct tt 3 [.ref q1, .int a1] h (am_pR Q3 X3) ∧ ((∀ q4 h2, Q3 (some q4) h2 →
   (((a2).toInt < 0 ∨ 8 < (a2).toInt →
    Q (-2 : Int32) h2) ∧
   ((a2).toInt = 0 →
    (am_K h2 q4 = 5 ∧
    Q (am_I h2 4 4 q4) h2)) ∧
   ((a2).toInt = 1 →
    (am_K h2 q4 = 5 ∧
    Q (am_I h2 4 3 q4) h2)) ∧
   ((a2).toInt = 2 →
    (am_K h2 q4 = 5 ∧
    Q (am_I h2 4 5 q4) h2)) ∧
   ((a2).toInt = 3 →
    (am_K h2 q4 = 5 ∧
    Q (am_I h2 4 1 q4) h2)) ∧
   ((a2).toInt = 4 →
    (am_K h2 q4 = 5 ∧
    (∃ (Q6 : Int32 → am_H → Prop) (X6 : String → am_H → Prop), am_Ct tt 115 [.int (am_I h2 4 6 q4)] h2 (am_pI Q6 X6) ∧ (∀ x7 h5, Q6 x7 h5 →
     Q x7 h5) ∧ (∀ E8 h5, X6 E8 h5 → Qx E8 h5)))) ∧
   ((a2).toInt = 5 →
    (am_K h2 q4 = 5 ∧
    (∃ (Q10 : Int32 → am_H → Prop) (X10 : String → am_H → Prop), am_Ct tt 115 [.int (am_I h2 4 7 q4)] h2 (am_pI Q10 X10) ∧ (∀ x11 h9, Q10 x11 h9 →
     Q x11 h9) ∧ (∀ E12 h9, X10 E12 h9 → Qx E12 h9)))) ∧
   ((a2).toInt = 6 →
    (am_K h2 q4 = 5 ∧
    (∃ (Q14 : Int32 → am_H → Prop) (X14 : String → am_H → Prop), am_Ct tt 115 [.int (am_I h2 4 9 q4)] h2 (am_pI Q14 X14) ∧ (∀ x15 h13, Q14 x15 h13 →
     Q x15 h13) ∧ (∀ E16 h13, X14 E16 h13 → Qx E16 h13)))) ∧
   ((a2).toInt = 7 →
    (am_K h2 q4 = 5 ∧
    (∃ (Q18 : Int32 → am_H → Prop) (X18 : String → am_H → Prop), am_Ct tt 115 [.int (am_I h2 4 12 q4)] h2 (am_pI Q18 X18) ∧ (∀ x19 h17, Q18 x19 h17 →
     Q x19 h17) ∧ (∀ E20 h17, X18 E20 h17 → Qx E20 h17)))) ∧
   ((a2).toInt = 8 →
    (am_K h2 a0 = 10 ∧ ∃ q21, am_R h2 9 0 a0 = some q21 ∧
    (am_K h2 q21 = 1 ∧ ∃ (Q23 : Int32 → am_H → Prop) (X23 : String → am_H → Prop), am_Ct tt 6 [.ref q21, .ref q4] h2 (am_pI Q23 X23) ∧ (∀ x24 h22, Q23 x24 h22 →
     (∃ (Q26 : Int32 → am_H → Prop) (X26 : String → am_H → Prop), am_Ct tt 115 [.int x24] h22 (am_pI Q26 X26) ∧ (∀ x27 h25, Q26 x27 h25 →
      Q x27 h25) ∧ (∀ E28 h25, X26 E28 h25 → Qx E28 h25))) ∧ (∀ E29 h22, X23 E29 h22 → Qx E29 h22)))) ∧
   True)) ∧ (∀ h2, Q3 none h2 →
   Q (-2 : Int32) h2)) ∧ (∀ E30 h2, X3 E30 h2 → Qx E30 h2)))) :
  am_Ev tt 114 0 [some (.ref a0), some (.int a1), some (.int a2), none] [] h (am_pI Q Qx) := am_vc 17 [] q

/-! 115 yX9_oneIf -/
theorem vc_115_0 (tt : Nat → Nat) (a0 : Int32) (h : am_H) (Q : Int32 → am_H → Prop) (Qx : String → am_H → Prop) (q :
  ((a0 = (Int32.ofNat 0) →
   Q (Int32.ofNat 0) h) ∧
  (¬ (a0 = (Int32.ofNat 0)) →
   Q (Int32.ofNat 1) h))) :
  am_Ev tt 115 0 [some (.int a0)] [] h (am_pI Q Qx) := am_vc 7 [] q

/-! 124 yX9_count -/
theorem vc_124_0 (tt : Nat → Nat) (a0 : Nat) (a1 : Int32) (h : am_H) (Q : Int32 → am_H → Prop) (Qx : String → am_H → Prop) (q :
  ((¬ a1 = (Int32.ofNat 0) →
   ((¬ a1 = (Int32.ofNat 1) →
    Q (-2 : Int32) h) ∧
   (¬ (¬ a1 = (Int32.ofNat 1)) →
    (am_K h a0 = 10 ∧ ∃ q1, am_R h 9 2 a0 = some q1 ∧
    (am_K h q1 = 7 ∧
    Q (am_I h 6 1 q1) h))))) ∧
  (¬ (¬ a1 = (Int32.ofNat 0)) →
   (am_K h a0 = 10 ∧ ∃ q2, am_R h 9 0 a0 = some q2 ∧
   (am_K h q2 = 1 ∧
   Q (am_I h 0 1 q2) h))))) :
  am_Ev tt 124 0 [some (.ref a0), some (.int a1)] [] h (am_pI Q Qx) := am_vc 12 [] q

def okC (tt : Nat → Nat) (P : Nat → Prop) (h : am_H) (cd : Nat → Nat) (bb : Nat → Nat → Nat) (wa wt : Nat) (S : sS) (h' : am_H) : Prop := RC tt P h' cd bb wa wt S ∧ fr P h h' ∧ am_U h' = am_U h ∧ am_V h' = am_V h ∧ am_N h' = am_N h
section PC
variable {tt : Nat → Nat} {P : Nat → Prop} {h h' : am_H} {cd : Nat → Nat} {bb : Nat → Nat → Nat} {wa wt : Nat} {S : sS}
theorem okC.rf (q : RC tt P h cd bb wa wt S) : okC tt P h cd bb wa wt S h := ⟨q, fr.rf, rfl, rfl, rfl⟩
theorem ct_fault (q : RC tt P h cd bb wa wt S) : am_Ct tt 113 [.ref (cd 0)] h (am_pI (fun x h' => x = S.2.2.2 ∧ okC tt P h cd bb wa wt S h') no_x) := by
  have q' := q
  obtain ⟨⟨s1, s2, s3, s4, s5, s6, s7⟩, q2, q3, q4, q5, q6, q7⟩ := q
  obtain ⟨x1, x2, x3, x4, x5, x6, x7⟩ := s4
  obtain ⟨r1, r2, r3, r4, r5, r6⟩ := s7
  refine vc_113_0 tt _ h _ _ ?_
  simp (disch := omega) only [x1, x7, r1, r2, r5, q5, am_hs, qi_lt, qi_le, qi_eq, qi_nn, qi_in, qi_add, qi_l, ql_i, ql_lt, ql_le, ql_eq, ql_add, qc_lt, qc_eq, qc_ge, qc_gt, qc_le, true_and, and_true, and_self, true_or, or_true, false_or, or_false, false_and, and_false, not_true_eq_false, not_false_eq_true, Classical.not_not, true_implies, false_implies, implies_true, exists_eq_left, exists_eq_left', Option.some.injEq, reduceIte, Nat.reduceEqDiff, Nat.reduceLT, Nat.reduceLeDiff, Nat.reduceAdd, Nat.reduceSub, Nat.reduceMul, eq_self, ne_eq, and_imp, forall_const, reduceCtorEq, am_w, List.map_cons, List.map_nil, List.sum_cons, List.sum_nil, Value.category, Nat.zero_le, Nat.le_refl]
  exact okC.rf q'
theorem ct_count (q : RC tt P h cd bb wa wt S) {x : Int32} : am_Ct tt 124 [.ref (cd 0), .int x] h (am_pI (fun r h' => r = f_count S x ∧ okC tt P h cd bb wa wt S h') no_x) := by
  have q' := q
  obtain ⟨⟨s1, s2, s3, s4, s5, s6, s7⟩, ⟨v1, v2⟩, q3, q4, q5, q6, q7⟩ := q
  obtain ⟨x1, x2, x3, x4, x5, x6, x7⟩ := s4
  have a1 := (s5 wa s1).1.1
  have t1 := (s5 wt s2).2.1
  refine vc_124_0 tt _ _ h _ _ ?_
  simp (disch := omega) only [x1, x2, x4, a1, t1, v1, q4.1, f_count, am_hs, qi_lt, qi_le, qi_eq, qi_nn, qi_in, qi_add, qi_l, ql_i, ql_lt, ql_le, ql_eq, ql_add, qc_lt, qc_eq, qc_ge, qc_gt, qc_le, true_and, and_true, and_self, true_or, or_true, false_or, or_false, false_and, and_false, not_true_eq_false, not_false_eq_true, Classical.not_not, true_implies, false_implies, implies_true, exists_eq_left, exists_eq_left', Option.some.injEq, reduceIte, Nat.reduceEqDiff, Nat.reduceLT, Nat.reduceLeDiff, Nat.reduceAdd, Nat.reduceSub, Nat.reduceMul, eq_self, ne_eq, and_imp, forall_const, reduceCtorEq, am_w, List.map_cons, List.map_nil, List.sum_cons, List.sum_nil, Value.category, Nat.zero_le, Nat.le_refl]
  have := okC.rf q'
  refine ⟨fun z => ⟨fun z2 => ⟨?_, this⟩, fun z2 => ⟨?_, this⟩⟩, fun z => ⟨?_, this⟩⟩
  all_goals grind
theorem ct_oneIf {b : Bool} : am_Ct tt 115 [.int (b01 b)] h (am_pI (fun r h' => r = b01 b ∧ h' = h) no_x) := by
  refine vc_115_0 tt _ h _ _ ?_
  cases b <;> simp [b01] <;> decide
theorem ct_name (q : RC tt P h cd bb wa wt S) {x c : Int32} (hc : ch c = c) : am_Ct tt 105 [.ref (cd 0), .int x, .int c] h (am_pI (fun r h' => r = (f_name S x c).1 ∧ okC tt P h cd bb wa wt (f_name S x c).2 h') no_x) := by
  have q' := q
  obtain ⟨⟨s1, s2, s3, s4, s5, s6, s7⟩, ⟨v1, v2, v3⟩, q3, q4, q5, q6, q7⟩ := q
  obtain ⟨x1, x2, x3, x4, x5, x6, x7⟩ := s4
  have sa := (s5 wa s1).1
  refine vc_105_0 tt _ _ _ h _ _ ?_
  simp (disch := omega) only [x1, x2, sa.1, am_hs, qi_lt, qi_le, qi_eq, qi_nn, qi_in, qi_add, qi_l, ql_i, ql_lt, ql_le, ql_eq, ql_add, qc_lt, qc_eq, qc_ge, qc_gt, qc_le, true_and, and_true, and_self, true_or, or_true, false_or, or_false, false_and, and_false, not_true_eq_false, not_false_eq_true, Classical.not_not, true_implies, false_implies, implies_true, exists_eq_left, exists_eq_left', Option.some.injEq, reduceIte, Nat.reduceEqDiff, Nat.reduceLT, Nat.reduceLeDiff, Nat.reduceAdd, Nat.reduceSub, Nat.reduceMul, eq_self, ne_eq, and_imp, forall_const, reduceCtorEq, am_w, List.map_cons, List.map_nil, List.sum_cons, List.sum_nil, Value.category, Nat.zero_le, Nat.le_refl]
  refine ⟨_, _, ct_find sa v1 q3.1, ⟨fun o k e => ?_, fun k e => ?_⟩, fun _ _ z => z⟩
  · obtain ⟨ek, e⟩ := e
    subst k
    rcases e with ⟨i, hi, rfl, e⟩ | ⟨e, _⟩
    · cases e
      obtain ⟨t1, t2⟩ := sa.2.2.2.2.2.2.2.1 i (by have := q3.1; omega)
      obtain ⟨u1, u2, u3, u4, u5, u6, u7, u8⟩ := t2
      obtain ⟨y1, y2, y3, y4, y5, y6, y7, y8, y9, y10, y11, y12⟩ := v2 i hi
      obtain ⟨g1, g2, g3, g4⟩ := q3.2.1 i hi
      have fE : f_name S (Int32.ofNat i) c = if c = Int32.ofNat 0 then (-2, S) else if e_un (a_E S.1 i) < 20 then (Int32.ofNat (e_un (a_E S.1 i) + 1), put_E S i (e_setN (a_E S.1 i) c)) else (-4, S) := by
        rw [f_name, ixo_n hi (by have := q3.1; omega)]
      simp (disch := omega) only [u1, y2, am_hs, qi_lt, qi_le, qi_eq, qi_nn, qi_in, qi_add, qi_l, ql_i, ql_lt, ql_le, ql_eq, ql_add, qc_lt, qc_eq, qc_ge, qc_gt, qc_le, true_and, and_true, and_self, true_or, or_true, false_or, or_false, false_and, and_false, not_true_eq_false, not_false_eq_true, Classical.not_not, true_implies, false_implies, implies_true, exists_eq_left, exists_eq_left', Option.some.injEq, reduceIte, Nat.reduceEqDiff, Nat.reduceLT, Nat.reduceLeDiff, Nat.reduceAdd, Nat.reduceSub, Nat.reduceMul, eq_self, ne_eq, and_imp, forall_const, reduceCtorEq, am_w, List.map_cons, List.map_nil, List.sum_cons, List.sum_nil, Value.category, Nat.zero_le, Nat.le_refl]
      refine ⟨fun z => ⟨fun z2 => ⟨_, _, ct_addUnit u1 u2 u3 u4 y2 g2, fun k' e => ?_, fun _ _ z => z⟩, fun z2 => ?_⟩, fun z => ?_⟩
      · rw [if_pos z2, hc] at e
        subst e
        rw [fE, if_neg z, if_pos z2]
        simp (disch := omega) only [u1, am_hs, qi_lt, qi_le, qi_eq, qi_nn, qi_in, qi_add, qi_l, ql_i, ql_lt, ql_le, ql_eq, ql_add, qc_lt, qc_eq, qc_ge, qc_gt, qc_le, true_and, and_true, and_self, true_or, or_true, false_or, or_false, false_and, and_false, not_true_eq_false, not_false_eq_true, Classical.not_not, true_implies, false_implies, implies_true, exists_eq_left, exists_eq_left', Option.some.injEq, reduceIte, Nat.reduceEqDiff, Nat.reduceLT, Nat.reduceLeDiff, Nat.reduceAdd, Nat.reduceSub, Nat.reduceMul, eq_self, ne_eq, and_imp, forall_const, reduceCtorEq, am_w, List.map_cons, List.map_nil, List.sum_cons, List.sum_nil, Value.category, Nat.zero_le, Nat.le_refl]
        have up := q'.upE (h' := am_sI (am_sA h (cd (c_un wa i)) (e_un (a_E S.1 i)) c) 4 1 (cd (c_en wa i)) (Int32.ofNat (e_un (a_E S.1 i) + 1))) hi (e' := e_setN (a_E S.1 i) c) rfl rfl rfl rfl (fun c k a z => by simp only [am_hs]; rw [if_neg (fun w => z ⟨w.1, w.2.2⟩)]) (fun _ _ _ _ => rfl) (fun a z z2 => by funext j; simp only [am_hs]; rw [if_neg (fun w => z w.1)]) rfl ?_ ⟨g1, by show e_un (a_E S.1 i) + 1 ≤ 20; omega, g3, g4⟩ (Nat.le_refl _)
        · exact ⟨up.1, up.2, rfl, rfl, rfl⟩
        · refine ⟨?_, ?_, ?_, ?_, ?_, ?_, ?_, y8, ?_, ?_, ?_, ?_⟩
          · simp only [am_hs, true_and, and_true, and_self, true_or, or_true, false_or, or_false, false_and, and_false, not_true_eq_false, not_false_eq_true, Classical.not_not, true_implies, false_implies, implies_true, exists_eq_left, exists_eq_left', Option.some.injEq, reduceIte, Nat.reduceEqDiff, Nat.reduceLT, Nat.reduceLeDiff, Nat.reduceAdd, Nat.reduceSub, Nat.reduceMul, eq_self, ne_eq, and_imp, forall_const, reduceCtorEq, am_w, List.map_cons, List.map_nil, List.sum_cons, List.sum_nil, Value.category, Nat.zero_le, Nat.le_refl]; exact y1
          · simp only [am_hs, true_and, and_true, and_self, true_or, or_true, false_or, or_false, false_and, and_false, not_true_eq_false, not_false_eq_true, Classical.not_not, true_implies, false_implies, implies_true, exists_eq_left, exists_eq_left', Option.some.injEq, reduceIte, Nat.reduceEqDiff, Nat.reduceLT, Nat.reduceLeDiff, Nat.reduceAdd, Nat.reduceSub, Nat.reduceMul, eq_self, ne_eq, and_imp, forall_const, reduceCtorEq, am_w, List.map_cons, List.map_nil, List.sum_cons, List.sum_nil, Value.category, Nat.zero_le, Nat.le_refl]; rfl
          · intro j hj
            simp only [am_hs, true_and, and_true, and_self, true_or, or_true, false_or, or_false, false_and, and_false, not_true_eq_false, not_false_eq_true, Classical.not_not, true_implies, false_implies, implies_true, exists_eq_left, exists_eq_left', Option.some.injEq, reduceIte, Nat.reduceEqDiff, Nat.reduceLT, Nat.reduceLeDiff, Nat.reduceAdd, Nat.reduceSub, Nat.reduceMul, eq_self, ne_eq, and_imp, forall_const, reduceCtorEq, am_w, List.map_cons, List.map_nil, List.sum_cons, List.sum_nil, Value.category, Nat.zero_le, Nat.le_refl]
            show _ = va_up (e_nm (a_E S.1 i)) (e_un (a_E S.1 i)) c j
            unfold va_up
            split
            · rfl
            · exact y3 j (by have : j < e_un (a_E S.1 i) + 1 := hj; omega)
          · simp only [am_hs, true_and, and_true, and_self, true_or, or_true, false_or, or_false, false_and, and_false, not_true_eq_false, not_false_eq_true, Classical.not_not, true_implies, false_implies, implies_true, exists_eq_left, exists_eq_left', Option.some.injEq, reduceIte, Nat.reduceEqDiff, Nat.reduceLT, Nat.reduceLeDiff, Nat.reduceAdd, Nat.reduceSub, Nat.reduceMul, eq_self, ne_eq, and_imp, forall_const, reduceCtorEq, am_w, List.map_cons, List.map_nil, List.sum_cons, List.sum_nil, Value.category, Nat.zero_le, Nat.le_refl]; exact y4
          · simp only [am_hs, true_and, and_true, and_self, true_or, or_true, false_or, or_false, false_and, and_false, not_true_eq_false, not_false_eq_true, Classical.not_not, true_implies, false_implies, implies_true, exists_eq_left, exists_eq_left', Option.some.injEq, reduceIte, Nat.reduceEqDiff, Nat.reduceLT, Nat.reduceLeDiff, Nat.reduceAdd, Nat.reduceSub, Nat.reduceMul, eq_self, ne_eq, and_imp, forall_const, reduceCtorEq, am_w, List.map_cons, List.map_nil, List.sum_cons, List.sum_nil, Value.category, Nat.zero_le, Nat.le_refl]; exact y5
          · simp only [am_hs, true_and, and_true, and_self, true_or, or_true, false_or, or_false, false_and, and_false, not_true_eq_false, not_false_eq_true, Classical.not_not, true_implies, false_implies, implies_true, exists_eq_left, exists_eq_left', Option.some.injEq, reduceIte, Nat.reduceEqDiff, Nat.reduceLT, Nat.reduceLeDiff, Nat.reduceAdd, Nat.reduceSub, Nat.reduceMul, eq_self, ne_eq, and_imp, forall_const, reduceCtorEq, am_w, List.map_cons, List.map_nil, List.sum_cons, List.sum_nil, Value.category, Nat.zero_le, Nat.le_refl]; exact y6
          · simp only [am_hs, true_and, and_true, and_self, true_or, or_true, false_or, or_false, false_and, and_false, not_true_eq_false, not_false_eq_true, Classical.not_not, true_implies, false_implies, implies_true, exists_eq_left, exists_eq_left', Option.some.injEq, reduceIte, Nat.reduceEqDiff, Nat.reduceLT, Nat.reduceLeDiff, Nat.reduceAdd, Nat.reduceSub, Nat.reduceMul, eq_self, ne_eq, and_imp, forall_const, reduceCtorEq, am_w, List.map_cons, List.map_nil, List.sum_cons, List.sum_nil, Value.category, Nat.zero_le, Nat.le_refl]; exact y7
          · simp only [am_hs, true_and, and_true, and_self, true_or, or_true, false_or, or_false, false_and, and_false, not_true_eq_false, not_false_eq_true, Classical.not_not, true_implies, false_implies, implies_true, exists_eq_left, exists_eq_left', Option.some.injEq, reduceIte, Nat.reduceEqDiff, Nat.reduceLT, Nat.reduceLeDiff, Nat.reduceAdd, Nat.reduceSub, Nat.reduceMul, eq_self, ne_eq, and_imp, forall_const, reduceCtorEq, am_w, List.map_cons, List.map_nil, List.sum_cons, List.sum_nil, Value.category, Nat.zero_le, Nat.le_refl]; exact y9
          · intro t ht; simp only [am_hs, true_and, and_true, and_self, true_or, or_true, false_or, or_false, false_and, and_false, not_true_eq_false, not_false_eq_true, Classical.not_not, true_implies, false_implies, implies_true, exists_eq_left, exists_eq_left', Option.some.injEq, reduceIte, Nat.reduceEqDiff, Nat.reduceLT, Nat.reduceLeDiff, Nat.reduceAdd, Nat.reduceSub, Nat.reduceMul, eq_self, ne_eq, and_imp, forall_const, reduceCtorEq, am_w, List.map_cons, List.map_nil, List.sum_cons, List.sum_nil, Value.category, Nat.zero_le, Nat.le_refl]; exact y10 t ht
          · simp only [am_hs, true_and, and_true, and_self, true_or, or_true, false_or, or_false, false_and, and_false, not_true_eq_false, not_false_eq_true, Classical.not_not, true_implies, false_implies, implies_true, exists_eq_left, exists_eq_left', Option.some.injEq, reduceIte, Nat.reduceEqDiff, Nat.reduceLT, Nat.reduceLeDiff, Nat.reduceAdd, Nat.reduceSub, Nat.reduceMul, eq_self, ne_eq, and_imp, forall_const, reduceCtorEq, am_w, List.map_cons, List.map_nil, List.sum_cons, List.sum_nil, Value.category, Nat.zero_le, Nat.le_refl]; exact y11
          · intro hp
            obtain ⟨b1, b2⟩ := y12 hp
            refine ⟨b1, fun j hj => ?_⟩
            simp only [am_hs, true_and, and_true, and_self, true_or, or_true, false_or, or_false, false_and, and_false, not_true_eq_false, not_false_eq_true, Classical.not_not, true_implies, false_implies, implies_true, exists_eq_left, exists_eq_left', Option.some.injEq, reduceIte, Nat.reduceEqDiff, Nat.reduceLT, Nat.reduceLeDiff, Nat.reduceAdd, Nat.reduceSub, Nat.reduceMul, eq_self, ne_eq, and_imp, forall_const, reduceCtorEq, am_w, List.map_cons, List.map_nil, List.sum_cons, List.sum_nil, Value.category, Nat.zero_le, Nat.le_refl]
            rw [if_neg (fun w => s3.2.2 wa i _ s1 (by have := q3.1; omega) (cK_un s1 (by have := q3.1; omega)) w.1)]
            exact b2 j hj
      · rw [fE, if_neg z, if_neg z2]; exact ⟨rfl, okC.rf q'⟩
      · rw [fE, if_pos z]; exact ⟨rfl, okC.rf q'⟩
    · cases e
  · obtain ⟨ek, e⟩ := e
    subst k
    rcases e with ⟨i, hi, _, e⟩ | ⟨_, e⟩
    · cases e
    · have fE : f_name S x c = (-2, S) := by rw [f_name, ixo_no (by have := q3.1; omega) e]
      rw [fE]
      exact ⟨rfl, okC.rf q'⟩
theorem ct_block (q : RC tt P h cd bb wa wt S) {x y : Int32} : am_Ct tt 107 [.ref (cd 0), .int x, .int y] h (am_pI (fun r h' => r = (f_block S x y).1 ∧ okC tt P h cd bb wa wt (f_block S x y).2 h') no_x) := by
  have q' := q
  obtain ⟨⟨s1, s2, s3, s4, s5, s6, s7⟩, ⟨v1, v2, v3⟩, q3, q4, q5, q6, q7⟩ := q
  obtain ⟨x1, x2, x3, x4, x5, x6, x7⟩ := s4
  have sa := (s5 wa s1).1
  have n24 := q3.1
  refine vc_107_0 tt _ _ _ h _ _ ?_
  simp (disch := omega) only [x1, x2, sa.1, am_hs, qi_lt, qi_le, qi_eq, qi_nn, qi_in, qi_add, qi_l, ql_i, ql_lt, ql_le, ql_eq, ql_add, qc_lt, qc_eq, qc_ge, qc_gt, qc_le, true_and, and_true, and_self, true_or, or_true, false_or, or_false, false_and, and_false, not_true_eq_false, not_false_eq_true, Classical.not_not, true_implies, false_implies, implies_true, exists_eq_left, exists_eq_left', Option.some.injEq, reduceIte, Nat.reduceEqDiff, Nat.reduceLT, Nat.reduceLeDiff, Nat.reduceAdd, Nat.reduceSub, Nat.reduceMul, eq_self, ne_eq, and_imp, forall_const, reduceCtorEq, am_w, List.map_cons, List.map_nil, List.sum_cons, List.sum_nil, Value.category, Nat.zero_le, Nat.le_refl]
  refine ⟨_, _, ct_find sa v1 q3.1, ⟨fun o k e => ?_, fun k e => ?_⟩, fun _ _ z => z⟩
  · obtain ⟨ek, e⟩ := e
    subst k
    rcases e with ⟨i, hi, rfl, e⟩ | ⟨e, _⟩
    · cases e
      obtain ⟨t1, t2⟩ := sa.2.2.2.2.2.2.2.1 i (by omega)
      obtain ⟨u1, u2, u3, u4, u5, u6, u7, u8⟩ := t2
      obtain ⟨y1, y2, y3, y4, y5, y6, y7, y8, y9, y10, y11, y12⟩ := v2 i hi
      obtain ⟨g1, g2, g3, g4⟩ := q3.2.1 i hi
      have bad : (∀ b, ixo 6 y = some b → ¬ e_kd (a_E S.1 i) = 0) → f_block S (Int32.ofNat i) y = (-2, S) := by
        intro hb
        rw [f_block, ixo_n hi (by omega)]
        cases e : ixo 6 y with
        | none => rfl
        | some b => simp only []; rw [if_pos (hb b e)]
      simp (disch := omega) only [u1, y1, am_hs, qi_lt, qi_le, qi_eq, qi_nn, qi_in, qi_add, qi_l, ql_i, ql_lt, ql_le, ql_eq, ql_add, qc_lt, qc_eq, qc_ge, qc_gt, qc_le, true_and, and_true, and_self, true_or, or_true, false_or, or_false, false_and, and_false, not_true_eq_false, not_false_eq_true, Classical.not_not, true_implies, false_implies, implies_true, exists_eq_left, exists_eq_left', Option.some.injEq, reduceIte, Nat.reduceEqDiff, Nat.reduceLT, Nat.reduceLeDiff, Nat.reduceAdd, Nat.reduceSub, Nat.reduceMul, eq_self, ne_eq, and_imp, forall_const, reduceCtorEq, am_w, List.map_cons, List.map_nil, List.sum_cons, List.sum_nil, Value.category, Nat.zero_le, Nat.le_refl]
      refine ⟨fun z => ?_, fun z => ?_⟩
      · rw [bad (fun b hb => z)]; exact ⟨rfl, okC.rf q'⟩
      · rcases qi_cases y with hy | ⟨b, hb, rfl⟩
        · rw [bad (fun b hb => by rw [ixo_neg hy] at hb; cases hb)]
          exact ⟨fun _ => ⟨rfl, okC.rf q'⟩, fun w => absurd hy w⟩
        · simp (disch := omega) only [x1, x2, sa.1, u1, y5, am_hs, qi_lt, qi_le, qi_eq, qi_nn, qi_in, qi_add, qi_l, ql_i, ql_lt, ql_le, ql_eq, ql_add, qc_lt, qc_eq, qc_ge, qc_gt, qc_le, true_and, and_true, and_self, true_or, or_true, false_or, or_false, false_and, and_false, not_true_eq_false, not_false_eq_true, Classical.not_not, true_implies, false_implies, implies_true, exists_eq_left, exists_eq_left', Option.some.injEq, reduceIte, Nat.reduceEqDiff, Nat.reduceLT, Nat.reduceLeDiff, Nat.reduceAdd, Nat.reduceSub, Nat.reduceMul, eq_self, ne_eq, and_imp, forall_const, reduceCtorEq, am_w, List.map_cons, List.map_nil, List.sum_cons, List.sum_nil, Value.category, Nat.zero_le, Nat.le_refl]
          refine ⟨fun w => by omega, fun _ => ⟨fun w => ?_, fun w => ?_⟩⟩
          · have hb6 : b < 6 := by omega
            have fE : f_block S (Int32.ofNat i) (Int32.ofNat b) = if b_kn (a_B S.1 (e_hm (a_E S.1 i))) = false ∨ b_kn (a_B S.1 b) = false then (-3, S) else (Int32.ofNat (e_hm (a_E S.1 i)), put_E S i (e_setH (a_E S.1 i) b)) := by
              rw [f_block, ixo_n hi (by omega), ixo_n hb6 (by omega)]
              simp only []
              rw [if_neg (fun w => w z)]
              rfl
            refine ⟨_, _, ct_isKnown sa g4 (v3 _ g4), fun r k e => ?_, fun _ _ z => z⟩
            obtain ⟨ek, e⟩ := e
            subst k e
            simp (disch := omega) only [x1, x2, sa.1, u1, y5, b01_z, am_hs, qi_lt, qi_le, qi_eq, qi_nn, qi_in, qi_add, qi_l, ql_i, ql_lt, ql_le, ql_eq, ql_add, qc_lt, qc_eq, qc_ge, qc_gt, qc_le, true_and, and_true, and_self, true_or, or_true, false_or, or_false, false_and, and_false, not_true_eq_false, not_false_eq_true, Classical.not_not, true_implies, false_implies, implies_true, exists_eq_left, exists_eq_left', Option.some.injEq, reduceIte, Nat.reduceEqDiff, Nat.reduceLT, Nat.reduceLeDiff, Nat.reduceAdd, Nat.reduceSub, Nat.reduceMul, eq_self, ne_eq, and_imp, forall_const, reduceCtorEq, am_w, List.map_cons, List.map_nil, List.sum_cons, List.sum_nil, Value.category, Nat.zero_le, Nat.le_refl]
            refine ⟨fun w1 => by rw [fE, if_pos (Or.inl w1)]; exact ⟨rfl, okC.rf q'⟩, fun w1 => ⟨_, _, ct_isKnown sa hb6 (v3 _ hb6), fun r k e => ?_, fun _ _ z => z⟩⟩
            obtain ⟨ek, e⟩ := e
            subst k e
            simp (disch := omega) only [x1, x2, sa.1, u1, y5, b01_z, am_hs, qi_lt, qi_le, qi_eq, qi_nn, qi_in, qi_add, qi_l, ql_i, ql_lt, ql_le, ql_eq, ql_add, qc_lt, qc_eq, qc_ge, qc_gt, qc_le, true_and, and_true, and_self, true_or, or_true, false_or, or_false, false_and, and_false, not_true_eq_false, not_false_eq_true, Classical.not_not, true_implies, false_implies, implies_true, exists_eq_left, exists_eq_left', Option.some.injEq, reduceIte, Nat.reduceEqDiff, Nat.reduceLT, Nat.reduceLeDiff, Nat.reduceAdd, Nat.reduceSub, Nat.reduceMul, eq_self, ne_eq, and_imp, forall_const, reduceCtorEq, am_w, List.map_cons, List.map_nil, List.sum_cons, List.sum_nil, Value.category, Nat.zero_le, Nat.le_refl]
            refine ⟨fun w2 => ?_, fun w2 => by rw [fE, if_pos (Or.inr w2)]; exact ⟨rfl, okC.rf q'⟩⟩
            rw [fE, if_neg (fun z => z.elim w1 w2)]
            refine ⟨rfl, ?_⟩
            rw [Bool.not_eq_false] at w1 w2
            have up := q'.upE (h' := am_sI h 4 5 (cd (c_en wa i)) (Int32.ofNat b)) hi (e' := e_setH (a_E S.1 i) b) rfl rfl rfl rfl (fun c k a z => by simp only [am_hs]; rw [if_neg (fun w => z ⟨w.1, w.2.2⟩)]) (fun _ _ _ _ => rfl) (fun a z z2 => rfl) rfl ?_ ⟨g1, g2, g3, hb6⟩ (by
              show (if b_kn (a_B S.1 b) = true ∧ 120 < e_sz (a_E S.1 i) then e_sz (a_E S.1 i) else 0) ≤ (if b_kn (a_B S.1 (e_hm (a_E S.1 i))) = true ∧ 120 < e_sz (a_E S.1 i) then e_sz (a_E S.1 i) else 0)
              rw [w1, w2]; exact Nat.le_refl _)
            · exact ⟨up.1, up.2, rfl, rfl, rfl⟩
            · have y12' := y12 w1
              refine ⟨?_, ?_, ?_, ?_, ?_, ?_, ?_, ?_, ?_, ?_, ?_, ?_⟩ <;> (try simp only [am_hs, true_and, and_true, and_self, true_or, or_true, false_or, or_false, false_and, and_false, not_true_eq_false, not_false_eq_true, Classical.not_not, true_implies, false_implies, implies_true, exists_eq_left, exists_eq_left', Option.some.injEq, reduceIte, Nat.reduceEqDiff, Nat.reduceLT, Nat.reduceLeDiff, Nat.reduceAdd, Nat.reduceSub, Nat.reduceMul, eq_self, ne_eq, and_imp, forall_const, reduceCtorEq, am_w, List.map_cons, List.map_nil, List.sum_cons, List.sum_nil, Value.category, Nat.zero_le, Nat.le_refl]) <;> first | exact (fun _ => y12') | first | exact y1 | exact y2 | exact y3 | exact y4 | exact y5 | exact y6 | exact y7 | exact y8 | exact y9 | exact y10 | exact y11 | exact y12 | rfl
          · rw [bad (fun c hc => by rw [ixo_ge hb (by omega)] at hc; cases hc)]; exact ⟨rfl, okC.rf q'⟩
    · cases e
  · obtain ⟨ek, e⟩ := e
    subst k
    rcases e with ⟨i, hi, _, e⟩ | ⟨_, e⟩
    · cases e
    · have fE : f_block S x y = (-2, S) := by rw [f_block, ixo_no (by omega) e]
      rw [fE]
      exact ⟨rfl, okC.rf q'⟩
end PC
