/-! deps: 17c -/
/-! ===== the class's writer: streams ===== -/
/-! 93 yX8_addCoderForm -/
theorem vc_93_0 (tt : Nat → Nat) (a0 : Nat) (a1 : Int32) (a2 : Int32) (h : am_H) (Q : am_H → Prop) (Qx : String → am_H → Prop) (q :
  ((¬ a1 = (Int32.ofNat 1) →
   ((¬ a1 = (Int32.ofNat 0) →
    ((¬ a1 = (Int32.ofNat 2) →
     ((0 : Nat) = 0 ∧
     (am_K h a0 = 9 ∧ ∃ q1, am_R h 8 3 a0 = some q1 ∧
     (am_K h q1 = 7 ∧ ∃ (Q3 : am_H → Prop) (X3 : String → am_H → Prop), am_Ct tt 68 [.ref q1, .int (Int32.ofNat 3)] h (am_pV Q3 X3) ∧ (∀ h2, Q3 h2 →
      (am_K h2 a0 = 9 ∧ ∃ q4, am_R h2 8 3 a0 = some q4 ∧
      (am_K h2 q4 = 7 ∧ ∃ (Q6 : am_H → Prop) (X6 : String → am_H → Prop), am_Ct tt 68 [.ref q4, .int ((Int32.ofNat 131844) >>> ((Int32.ofNat 16) &&& 31))] h2 (am_pV Q6 X6) ∧ (∀ h5, Q6 h5 →
       (am_K h5 a0 = 9 ∧ ∃ q7, am_R h5 8 3 a0 = some q7 ∧
       (am_K h5 q7 = 7 ∧ ∃ (Q9 : am_H → Prop) (X9 : String → am_H → Prop), am_Ct tt 68 [.ref q7, .int ((Int32.ofNat 131844) >>> ((Int32.ofNat 8) &&& 31))] h5 (am_pV Q9 X9) ∧ (∀ h8, Q9 h8 →
        (am_K h8 a0 = 9 ∧ ∃ q10, am_R h8 8 3 a0 = some q10 ∧
        (am_K h8 q10 = 7 ∧ ∃ (Q12 : am_H → Prop) (X12 : String → am_H → Prop), am_Ct tt 68 [.ref q10, .int (Int32.ofNat 131844)] h8 (am_pV Q12 X12) ∧ (∀ h11, Q12 h11 →
         Q h11) ∧ (∀ E13 h11, X12 E13 h11 → Qx E13 h11)))) ∧ (∀ E14 h8, X9 E14 h8 → Qx E14 h8)))) ∧ (∀ E15 h5, X6 E15 h5 → Qx E15 h5)))) ∧ (∀ E16 h2, X3 E16 h2 → Qx E16 h2))))) ∧
    (¬ (¬ a1 = (Int32.ofNat 2)) →
     ((0 : Nat) = 0 ∧
     (am_K h a0 = 9 ∧ ∃ q17, am_R h 8 3 a0 = some q17 ∧
     (am_K h q17 = 7 ∧ ∃ (Q19 : am_H → Prop) (X19 : String → am_H → Prop), am_Ct tt 68 [.ref q17, .int (Int32.ofNat 3)] h (am_pV Q19 X19) ∧ (∀ h18, Q19 h18 →
      (am_K h18 a0 = 9 ∧ ∃ q20, am_R h18 8 3 a0 = some q20 ∧
      (am_K h18 q20 = 7 ∧ ∃ (Q22 : am_H → Prop) (X22 : String → am_H → Prop), am_Ct tt 68 [.ref q20, .int ((Int32.ofNat 131842) >>> ((Int32.ofNat 16) &&& 31))] h18 (am_pV Q22 X22) ∧ (∀ h21, Q22 h21 →
       (am_K h21 a0 = 9 ∧ ∃ q23, am_R h21 8 3 a0 = some q23 ∧
       (am_K h21 q23 = 7 ∧ ∃ (Q25 : am_H → Prop) (X25 : String → am_H → Prop), am_Ct tt 68 [.ref q23, .int ((Int32.ofNat 131842) >>> ((Int32.ofNat 8) &&& 31))] h21 (am_pV Q25 X25) ∧ (∀ h24, Q25 h24 →
        (am_K h24 a0 = 9 ∧ ∃ q26, am_R h24 8 3 a0 = some q26 ∧
        (am_K h24 q26 = 7 ∧ ∃ (Q28 : am_H → Prop) (X28 : String → am_H → Prop), am_Ct tt 68 [.ref q26, .int (Int32.ofNat 131842)] h24 (am_pV Q28 X28) ∧ (∀ h27, Q28 h27 →
         Q h27) ∧ (∀ E29 h27, X28 E29 h27 → Qx E29 h27)))) ∧ (∀ E30 h24, X25 E30 h24 → Qx E30 h24)))) ∧ (∀ E31 h21, X22 E31 h21 → Qx E31 h21)))) ∧ (∀ E32 h18, X19 E32 h18 → Qx E32 h18))))))) ∧
   (¬ (¬ a1 = (Int32.ofNat 0)) →
    (am_K h a0 = 9 ∧ ∃ q33, am_R h 8 3 a0 = some q33 ∧
    (am_K h q33 = 7 ∧ ∃ (Q35 : am_H → Prop) (X35 : String → am_H → Prop), am_Ct tt 68 [.ref q33, .int (Int32.ofNat 1)] h (am_pV Q35 X35) ∧ (∀ h34, Q35 h34 →
     (am_K h34 a0 = 9 ∧ ∃ q36, am_R h34 8 3 a0 = some q36 ∧
     (am_K h34 q36 = 7 ∧ ∃ (Q38 : am_H → Prop) (X38 : String → am_H → Prop), am_Ct tt 68 [.ref q36, .int (Int32.ofNat 0)] h34 (am_pV Q38 X38) ∧ (∀ h37, Q38 h37 →
      Q h37) ∧ (∀ E39 h37, X38 E39 h37 → Qx E39 h37)))) ∧ (∀ E40 h34, X35 E40 h34 → Qx E40 h34)))))) ∧
  (¬ (¬ a1 = (Int32.ofNat 1)) →
   (am_K h a0 = 9 ∧ ∃ q41, am_R h 8 3 a0 = some q41 ∧
   (am_K h q41 = 7 ∧ ∃ (Q43 : am_H → Prop) (X43 : String → am_H → Prop), am_Ct tt 68 [.ref q41, .int (Int32.ofNat 33)] h (am_pV Q43 X43) ∧ (∀ h42, Q43 h42 →
    (am_K h42 a0 = 9 ∧ ∃ q44, am_R h42 8 3 a0 = some q44 ∧
    (am_K h42 q44 = 7 ∧ ∃ (Q46 : am_H → Prop) (X46 : String → am_H → Prop), am_Ct tt 68 [.ref q44, .int (Int32.ofNat 3)] h42 (am_pV Q46 X46) ∧ (∀ h45, Q46 h45 →
     (am_K h45 a0 = 9 ∧ ∃ q47, am_R h45 8 3 a0 = some q47 ∧
     (am_K h45 q47 = 7 ∧ ∃ (Q49 : am_H → Prop) (X49 : String → am_H → Prop), am_Ct tt 71 [.ref q47, .long (Int64.ofNat 1)] h45 (am_pV Q49 X49) ∧ (∀ h48, Q49 h48 →
      (am_K h48 a0 = 9 ∧ ∃ q50, am_R h48 8 3 a0 = some q50 ∧
      (am_K h48 q50 = 7 ∧ ∃ (Q52 : am_H → Prop) (X52 : String → am_H → Prop), am_Ct tt 68 [.ref q50, .int (a2 - (Int32.ofNat 1))] h48 (am_pV Q52 X52) ∧ (∀ h51, Q52 h51 →
       Q h51) ∧ (∀ E53 h51, X52 E53 h51 → Qx E53 h51)))) ∧ (∀ E54 h48, X49 E54 h48 → Qx E54 h48)))) ∧ (∀ E55 h45, X46 E55 h45 → Qx E55 h45)))) ∧ (∀ E56 h42, X43 E56 h42 → Qx E56 h42)))))) :
  am_Ev tt 93 0 [some (.ref a0), some (.int a1), some (.int a2), none] [] h (am_pV Q Qx) := am_vc 34 [] q

/-! 92 yX8_addFolder -/
theorem vc_92_0 (tt : Nat → Nat) (a0 : Nat) (a1 : Nat) (h : am_H) (Q : am_H → Prop) (Qx : String → am_H → Prop) (q :
  (am_K h a1 = 2 ∧
  (am_w [] ≤ 8 ∧
  (am_K h a0 = 9 ∧ ∃ q1, am_R h 8 3 a0 = some q1 ∧
  (am_K h q1 = 7 ∧ ∃ (Q3 : am_H → Prop) (X3 : String → am_H → Prop), am_Ct tt 71 [.ref q1, .long ((if (Int32.ofNat 1) < (am_I h 1 2 a1) then (am_I h 1 2 a1) else (Int32.ofNat 1))).toInt64] h (am_pV Q3 X3) ∧ (∀ h2, Q3 h2 →
   am_Ev tt 92 20 [some (.ref a0), some (.ref a1), some (.int (if (Int32.ofNat 1) < (am_I h 1 2 a1) then (am_I h 1 2 a1) else (Int32.ofNat 1))), some (.int (Int32.ofNat 0))] [] h2 (am_pV Q Qx)) ∧ (∀ E4 h2, X3 E4 h2 → Qx E4 h2)))))) :
  am_Ev tt 92 0 [some (.ref a0), some (.ref a1), none, none] [] h (am_pV Q Qx) := am_vc 15 [(20, [true, true, true, true]), (66, [true, false, true, true])] q
theorem vc_92_20 (tt : Nat → Nat) (a0 : Nat) (a1 : Nat) (a2 : Int32) (a3 : Int32) (h : am_H) (Q : am_H → Prop) (Qx : String → am_H → Prop) (q :
  ((a2 ≤ a3 →
   am_Ev tt 92 66 [some (.ref a0), none, some (.int a2), some (.int (Int32.ofNat 1))] [] h (am_pV Q Qx)) ∧
  (¬ (a2 ≤ a3) →
   (am_K h a1 = 2 ∧
   (((am_I h 1 2 a1) ≤ a3 →
    (am_K h a0 = 9 ∧ ∃ (Q2 : am_H → Prop) (X2 : String → am_H → Prop), am_Ct tt 93 [.ref a0, .int (Int32.ofNat 0), .int (Int32.ofNat 0)] h (am_pV Q2 X2) ∧ (∀ h1, Q2 h1 →
     am_Ev tt 92 20 [some (.ref a0), some (.ref a1), some (.int a2), some (.int (a3 + (Int32.ofNat 1)))] [] h1 (am_pV Q Qx)) ∧ (∀ E3 h1, X2 E3 h1 → Qx E3 h1))) ∧
   (¬ ((am_I h 1 2 a1) ≤ a3) →
    (am_K h a1 = 2 ∧ ∃ q4, am_R h 1 0 a1 = some q4 ∧
    ((am_K h q4 = 21 ∨ am_K h q4 = 31) ∧ vp_in a3 (am_N h q4) ∧
    (am_K h a1 = 2 ∧ ∃ q5, am_R h 1 1 a1 = some q5 ∧
    ((am_K h q5 = 21 ∨ am_K h q5 = 31) ∧ vp_in a3 (am_N h q5) ∧
    (am_K h a0 = 9 ∧ ∃ (Q7 : am_H → Prop) (X7 : String → am_H → Prop), am_Ct tt 93 [.ref a0, .int (am_A h q4 (a3).toNatClampNeg), .int (am_A h q5 (a3).toNatClampNeg)] h (am_pV Q7 X7) ∧ (∀ h6, Q7 h6 →
     am_Ev tt 92 20 [some (.ref a0), some (.ref a1), some (.int a2), some (.int (a3 + (Int32.ofNat 1)))] [] h6 (am_pV Q Qx)) ∧ (∀ E8 h6, X7 E8 h6 → Qx E8 h6)))))))))))) :
  am_Ev tt 92 20 [some (.ref a0), some (.ref a1), some (.int a2), some (.int a3)] [] h (am_pV Q Qx) := am_vc 23 [(20, [true, true, true, true]), (66, [true, false, true, true])] q
theorem vc_92_66 (tt : Nat → Nat) (a0 : Nat) (a2 : Int32) (a3 : Int32) (h : am_H) (Q : am_H → Prop) (Qx : String → am_H → Prop) (q :
  ((a2 ≤ a3 →
   Q h) ∧
  (¬ (a2 ≤ a3) →
   (am_K h a0 = 9 ∧ ∃ q1, am_R h 8 3 a0 = some q1 ∧
   (am_K h q1 = 7 ∧ ∃ (Q3 : am_H → Prop) (X3 : String → am_H → Prop), am_Ct tt 71 [.ref q1, .long ((a3 - (Int32.ofNat 1))).toInt64] h (am_pV Q3 X3) ∧ (∀ h2, Q3 h2 →
    (am_K h2 a0 = 9 ∧ ∃ q4, am_R h2 8 3 a0 = some q4 ∧
    (am_K h2 q4 = 7 ∧ ∃ (Q6 : am_H → Prop) (X6 : String → am_H → Prop), am_Ct tt 71 [.ref q4, .long (a3).toInt64] h2 (am_pV Q6 X6) ∧ (∀ h5, Q6 h5 →
     am_Ev tt 92 66 [some (.ref a0), none, some (.int a2), some (.int (a3 + (Int32.ofNat 1)))] [] h5 (am_pV Q Qx)) ∧ (∀ E7 h5, X6 E7 h5 → Qx E7 h5)))) ∧ (∀ E8 h2, X3 E8 h2 → Qx E8 h2)))))) :
  am_Ev tt 92 66 [some (.ref a0), none, some (.int a2), some (.int a3)] [] h (am_pV Q Qx) := am_vc 20 [(20, [true, true, true, true]), (66, [true, false, true, true])] q

/-! 90 yX8_addPackedSizes -/
theorem vc_90_0 (tt : Nat → Nat) (a0 : Nat) (h : am_H) (Q : am_H → Prop) (Qx : String → am_H → Prop) (q :
  (am_K h a0 = 9 ∧ ∃ q1, am_R h 8 3 a0 = some q1 ∧
  (am_K h q1 = 7 ∧ ∃ (Q3 : am_H → Prop) (X3 : String → am_H → Prop), am_Ct tt 68 [.ref q1, .int (Int32.ofNat 6)] h (am_pV Q3 X3) ∧ (∀ h2, Q3 h2 →
   (am_K h2 a0 = 9 ∧ ∃ q4, am_R h2 8 3 a0 = some q4 ∧
   (am_K h2 q4 = 7 ∧ ∃ (Q6 : am_H → Prop) (X6 : String → am_H → Prop), am_Ct tt 71 [.ref q4, .long (Int64.ofNat 0)] h2 (am_pV Q6 X6) ∧ (∀ h5, Q6 h5 →
    (am_K h5 a0 = 9 ∧ ∃ q7, am_R h5 8 3 a0 = some q7 ∧
    (am_K h5 a0 = 9 ∧
    (am_K h5 q7 = 7 ∧ ∃ (Q9 : am_H → Prop) (X9 : String → am_H → Prop), am_Ct tt 71 [.ref q7, .long ((am_I h5 8 6 a0)).toInt64] h5 (am_pV Q9 X9) ∧ (∀ h8, Q9 h8 →
     (am_K h8 a0 = 9 ∧ ∃ q10, am_R h8 8 3 a0 = some q10 ∧
     (am_K h8 q10 = 7 ∧ ∃ (Q12 : am_H → Prop) (X12 : String → am_H → Prop), am_Ct tt 68 [.ref q10, .int (Int32.ofNat 9)] h8 (am_pV Q12 X12) ∧ (∀ h11, Q12 h11 →
      am_Ev tt 90 40 [some (.ref a0), some (.int (Int32.ofNat 0)), none] [] h11 (am_pV Q Qx)) ∧ (∀ E13 h11, X12 E13 h11 → Qx E13 h11)))) ∧ (∀ E14 h8, X9 E14 h8 → Qx E14 h8))))) ∧ (∀ E15 h5, X6 E15 h5 → Qx E15 h5)))) ∧ (∀ E16 h2, X3 E16 h2 → Qx E16 h2)))) :
  am_Ev tt 90 0 [some (.ref a0), none, none] [] h (am_pV Q Qx) := am_vc 23 [(40, [true, true, false])] q
theorem vc_90_40 (tt : Nat → Nat) (a0 : Nat) (a1 : Int32) (h : am_H) (Q : am_H → Prop) (Qx : String → am_H → Prop) (q :
  (((Int32.ofNat 6) ≤ a1 →
   (am_K h a0 = 9 ∧ ∃ q1, am_R h 8 3 a0 = some q1 ∧
   (am_K h q1 = 7 ∧ ∃ (Q3 : am_H → Prop) (X3 : String → am_H → Prop), am_Ct tt 68 [.ref q1, .int (Int32.ofNat 0)] h (am_pV Q3 X3) ∧ (∀ h2, Q3 h2 →
    Q h2) ∧ (∀ E4 h2, X3 E4 h2 → Qx E4 h2)))) ∧
  (¬ ((Int32.ofNat 6) ≤ a1) →
   (am_K h a0 = 9 ∧ ∃ q5, am_R h 8 2 a0 = some q5 ∧
   (am_K h q5 = 1 ∧ ∃ (Q7 : Int32 → am_H → Prop) (X7 : String → am_H → Prop), am_Ct tt 8 [.ref q5, .int a1] h (am_pI Q7 X7) ∧ (∀ x8 h6, Q7 x8 h6 →
    ((x8 ≤ (Int32.ofNat 0) →
     am_Ev tt 90 40 [some (.ref a0), some (.int (a1 + (Int32.ofNat 1))), none] [] h6 (am_pV Q Qx)) ∧
    (¬ (x8 ≤ (Int32.ofNat 0)) →
     (am_K h6 a0 = 9 ∧ ∃ q9, am_R h6 8 3 a0 = some q9 ∧
     (am_K h6 q9 = 7 ∧ ∃ (Q11 : am_H → Prop) (X11 : String → am_H → Prop), am_Ct tt 71 [.ref q9, .long (x8).toInt64] h6 (am_pV Q11 X11) ∧ (∀ h10, Q11 h10 →
      am_Ev tt 90 40 [some (.ref a0), some (.int (a1 + (Int32.ofNat 1))), none] [] h10 (am_pV Q Qx)) ∧ (∀ E12 h10, X11 E12 h10 → Qx E12 h10)))))) ∧ (∀ E13 h6, X7 E13 h6 → Qx E13 h6)))))) :
  am_Ev tt 90 40 [some (.ref a0), some (.int a1), none] [] h (am_pV Q Qx) := am_vc 20 [(40, [true, true, false])] q

/-! 91 yX8_addFolders -/
theorem vc_91_0 (tt : Nat → Nat) (a0 : Nat) (h : am_H) (Q : am_H → Prop) (Qx : String → am_H → Prop) (q :
  (am_K h a0 = 9 ∧ ∃ q1, am_R h 8 3 a0 = some q1 ∧
  (am_K h q1 = 7 ∧ ∃ (Q3 : am_H → Prop) (X3 : String → am_H → Prop), am_Ct tt 68 [.ref q1, .int (Int32.ofNat 7)] h (am_pV Q3 X3) ∧ (∀ h2, Q3 h2 →
   (am_K h2 a0 = 9 ∧ ∃ q4, am_R h2 8 3 a0 = some q4 ∧
   (am_K h2 q4 = 7 ∧ ∃ (Q6 : am_H → Prop) (X6 : String → am_H → Prop), am_Ct tt 68 [.ref q4, .int (Int32.ofNat 11)] h2 (am_pV Q6 X6) ∧ (∀ h5, Q6 h5 →
    (am_K h5 a0 = 9 ∧ ∃ q7, am_R h5 8 3 a0 = some q7 ∧
    (am_K h5 a0 = 9 ∧
    (am_K h5 q7 = 7 ∧ ∃ (Q9 : am_H → Prop) (X9 : String → am_H → Prop), am_Ct tt 71 [.ref q7, .long ((am_I h5 8 6 a0)).toInt64] h5 (am_pV Q9 X9) ∧ (∀ h8, Q9 h8 →
     (am_K h8 a0 = 9 ∧ ∃ q10, am_R h8 8 3 a0 = some q10 ∧
     (am_K h8 q10 = 7 ∧ ∃ (Q12 : am_H → Prop) (X12 : String → am_H → Prop), am_Ct tt 68 [.ref q10, .int (Int32.ofNat 0)] h8 (am_pV Q12 X12) ∧ (∀ h11, Q12 h11 →
      am_Ev tt 91 40 [some (.ref a0), some (.int (Int32.ofNat 0)), none, none, none] [] h11 (am_pV Q Qx)) ∧ (∀ E13 h11, X12 E13 h11 → Qx E13 h11)))) ∧ (∀ E14 h8, X9 E14 h8 → Qx E14 h8))))) ∧ (∀ E15 h5, X6 E15 h5 → Qx E15 h5)))) ∧ (∀ E16 h2, X3 E16 h2 → Qx E16 h2)))) :
  am_Ev tt 91 0 [some (.ref a0), none, none, none, none] [] h (am_pV Q Qx) := am_vc 23 [(40, [true, true, false, false, false]), (87, [true, true, false, false, false]), (122, [true, true, true, true, true])] q
theorem vc_91_40 (tt : Nat → Nat) (a0 : Nat) (a1 : Int32) (h : am_H) (Q : am_H → Prop) (Qx : String → am_H → Prop) (q :
  (((Int32.ofNat 6) ≤ a1 →
   (am_K h a0 = 9 ∧ ∃ q1, am_R h 8 3 a0 = some q1 ∧
   (am_K h q1 = 7 ∧ ∃ (Q3 : am_H → Prop) (X3 : String → am_H → Prop), am_Ct tt 68 [.ref q1, .int (Int32.ofNat 12)] h (am_pV Q3 X3) ∧ (∀ h2, Q3 h2 →
    am_Ev tt 91 87 [some (.ref a0), some (.int (Int32.ofNat 0)), none, none, none] [] h2 (am_pV Q Qx)) ∧ (∀ E4 h2, X3 E4 h2 → Qx E4 h2)))) ∧
  (¬ ((Int32.ofNat 6) ≤ a1) →
   (am_K h a0 = 9 ∧ ∃ q5, am_R h 8 2 a0 = some q5 ∧
   (am_K h q5 = 1 ∧ ∃ (Q7 : Int32 → am_H → Prop) (X7 : String → am_H → Prop), am_Ct tt 8 [.ref q5, .int a1] h (am_pI Q7 X7) ∧ (∀ x8 h6, Q7 x8 h6 →
    ((x8 ≤ (Int32.ofNat 0) →
     am_Ev tt 91 40 [some (.ref a0), some (.int (a1 + (Int32.ofNat 1))), none, none, none] [] h6 (am_pV Q Qx)) ∧
    (¬ (x8 ≤ (Int32.ofNat 0)) →
     (am_K h6 a0 = 9 ∧ ∃ q9, am_R h6 8 2 a0 = some q9 ∧
     (am_K h6 q9 = 1 ∧ ∃ q10, am_R h6 0 2 q9 = some q10 ∧
     ((am_K h6 q10 = 26 ∨ am_K h6 q10 = 27) ∧ vp_in a1 (am_N h6 q10) ∧ ∃ q11, am_C h6 q10 (a1).toNatClampNeg = some q11 ∧
     (am_K h6 a0 = 9 ∧ ∃ (Q13 : am_H → Prop) (X13 : String → am_H → Prop), am_Ct tt 92 [.ref a0, .ref q11] h6 (am_pV Q13 X13) ∧ (∀ h12, Q13 h12 →
      am_Ev tt 91 40 [some (.ref a0), some (.int (a1 + (Int32.ofNat 1))), none, none, none] [] h12 (am_pV Q Qx)) ∧ (∀ E14 h12, X13 E14 h12 → Qx E14 h12)))))))) ∧ (∀ E15 h6, X7 E15 h6 → Qx E15 h6)))))) :
  am_Ev tt 91 40 [some (.ref a0), some (.int a1), none, none, none] [] h (am_pV Q Qx) := am_vc 20 [(40, [true, true, false, false, false]), (87, [true, true, false, false, false]), (122, [true, true, true, true, true])] q
theorem vc_91_87 (tt : Nat → Nat) (a0 : Nat) (a1 : Int32) (h : am_H) (Q : am_H → Prop) (Qx : String → am_H → Prop) (q :
  (((Int32.ofNat 6) ≤ a1 →
   (am_K h a0 = 9 ∧ ∃ q1, am_R h 8 3 a0 = some q1 ∧
   (am_K h q1 = 7 ∧ ∃ (Q3 : am_H → Prop) (X3 : String → am_H → Prop), am_Ct tt 68 [.ref q1, .int (Int32.ofNat 0)] h (am_pV Q3 X3) ∧ (∀ h2, Q3 h2 →
    Q h2) ∧ (∀ E4 h2, X3 E4 h2 → Qx E4 h2)))) ∧
  (¬ ((Int32.ofNat 6) ≤ a1) →
   (am_K h a0 = 9 ∧ ∃ q5, am_R h 8 2 a0 = some q5 ∧
   (am_K h q5 = 1 ∧ ∃ (Q7 : Int32 → am_H → Prop) (X7 : String → am_H → Prop), am_Ct tt 8 [.ref q5, .int a1] h (am_pI Q7 X7) ∧ (∀ x8 h6, Q7 x8 h6 →
    (am_K h6 a0 = 9 ∧ ∃ q9, am_R h6 8 2 a0 = some q9 ∧
    (am_K h6 q9 = 1 ∧ ∃ q10, am_R h6 0 2 q9 = some q10 ∧
    ((am_K h6 q10 = 26 ∨ am_K h6 q10 = 27) ∧ vp_in a1 (am_N h6 q10) ∧ ∃ q11, am_C h6 q10 (a1).toNatClampNeg = some q11 ∧
    (am_K h6 q11 = 2 ∧
    (am_w [] ≤ 8 ∧
    am_Ev tt 91 122 [some (.ref a0), some (.int a1), some (.int x8), some (.int (if (Int32.ofNat 1) < (am_I h6 1 2 q11) then (am_I h6 1 2 q11) else (Int32.ofNat 1))), some (.int (Int32.ofNat 0))] [] h6 (am_pV Q Qx))))))) ∧ (∀ E12 h6, X7 E12 h6 → Qx E12 h6)))))) :
  am_Ev tt 91 87 [some (.ref a0), some (.int a1), none, none, none] [] h (am_pV Q Qx) := am_vc 22 [(40, [true, true, false, false, false]), (87, [true, true, false, false, false]), (122, [true, true, true, true, true])] q
theorem vc_91_122 (tt : Nat → Nat) (a0 : Nat) (a1 : Int32) (a2 : Int32) (a3 : Int32) (a4 : Int32) (h : am_H) (Q : am_H → Prop) (Qx : String → am_H → Prop) (q :
  ((a3 ≤ a4 →
   am_Ev tt 91 87 [some (.ref a0), some (.int (a1 + (Int32.ofNat 1))), none, none, none] [] h (am_pV Q Qx)) ∧
  (¬ (a3 ≤ a4) →
   ((a2 ≤ (Int32.ofNat 0) →
    am_Ev tt 91 87 [some (.ref a0), some (.int (a1 + (Int32.ofNat 1))), none, none, none] [] h (am_pV Q Qx)) ∧
   (¬ (a2 ≤ (Int32.ofNat 0)) →
    (am_K h a0 = 9 ∧ ∃ q1, am_R h 8 3 a0 = some q1 ∧
    (am_K h q1 = 7 ∧ ∃ (Q3 : am_H → Prop) (X3 : String → am_H → Prop), am_Ct tt 71 [.ref q1, .long (a2).toInt64] h (am_pV Q3 X3) ∧ (∀ h2, Q3 h2 →
     am_Ev tt 91 122 [some (.ref a0), some (.int a1), some (.int a2), some (.int a3), some (.int (a4 + (Int32.ofNat 1)))] [] h2 (am_pV Q Qx)) ∧ (∀ E4 h2, X3 E4 h2 → Qx E4 h2)))))))) :
  am_Ev tt 91 122 [some (.ref a0), some (.int a1), some (.int a2), some (.int a3), some (.int a4)] [] h (am_pV Q Qx) := am_vc 15 [(40, [true, true, false, false, false]), (87, [true, true, false, false, false]), (122, [true, true, true, true, true])] q

/-! 95 yX8_addFileCounts -/
theorem vc_95_0 (tt : Nat → Nat) (a0 : Nat) (h : am_H) (Q : am_H → Prop) (Qx : String → am_H → Prop) (q :
  (am_K h a0 = 9 ∧ ∃ q1, am_R h 8 3 a0 = some q1 ∧
  (am_K h q1 = 7 ∧ ∃ (Q3 : am_H → Prop) (X3 : String → am_H → Prop), am_Ct tt 68 [.ref q1, .int (Int32.ofNat 13)] h (am_pV Q3 X3) ∧ (∀ h2, Q3 h2 →
   am_Ev tt 95 11 [some (.ref a0), some (.int (Int32.ofNat 0)), none] [] h2 (am_pV Q Qx)) ∧ (∀ E4 h2, X3 E4 h2 → Qx E4 h2)))) :
  am_Ev tt 95 0 [some (.ref a0), none, none] [] h (am_pV Q Qx) := am_vc 9 [(11, [true, true, false])] q
theorem vc_95_11 (tt : Nat → Nat) (a0 : Nat) (a1 : Int32) (h : am_H) (Q : am_H → Prop) (Qx : String → am_H → Prop) (q :
  (((Int32.ofNat 6) ≤ a1 →
   Q h) ∧
  (¬ ((Int32.ofNat 6) ≤ a1) →
   (am_K h a0 = 9 ∧ ∃ q1, am_R h 8 2 a0 = some q1 ∧
   (am_K h q1 = 1 ∧ ∃ (Q3 : Int32 → am_H → Prop) (X3 : String → am_H → Prop), am_Ct tt 9 [.ref q1, .int a1] h (am_pI Q3 X3) ∧ (∀ x4 h2, Q3 x4 h2 →
    ((x4 ≤ (Int32.ofNat 0) →
     am_Ev tt 95 11 [some (.ref a0), some (.int (a1 + (Int32.ofNat 1))), none] [] h2 (am_pV Q Qx)) ∧
    (¬ (x4 ≤ (Int32.ofNat 0)) →
     (am_K h2 a0 = 9 ∧ ∃ q5, am_R h2 8 3 a0 = some q5 ∧
     (am_K h2 q5 = 7 ∧ ∃ (Q7 : am_H → Prop) (X7 : String → am_H → Prop), am_Ct tt 71 [.ref q5, .long (x4).toInt64] h2 (am_pV Q7 X7) ∧ (∀ h6, Q7 h6 →
      am_Ev tt 95 11 [some (.ref a0), some (.int (a1 + (Int32.ofNat 1))), none] [] h6 (am_pV Q Qx)) ∧ (∀ E8 h6, X7 E8 h6 → Qx E8 h6)))))) ∧ (∀ E9 h2, X3 E9 h2 → Qx E9 h2)))))) :
  am_Ev tt 95 11 [some (.ref a0), some (.int a1), none] [] h (am_pV Q Qx) := am_vc 20 [(11, [true, true, false])] q

/-! 96 yX8_addFileSizes -/
theorem vc_96_0 (tt : Nat → Nat) (a0 : Nat) (h : am_H) (Q : am_H → Prop) (Qx : String → am_H → Prop) (q :
  (am_K h a0 = 9 ∧ ∃ q1, am_R h 8 3 a0 = some q1 ∧
  (am_K h q1 = 7 ∧ ∃ (Q3 : am_H → Prop) (X3 : String → am_H → Prop), am_Ct tt 68 [.ref q1, .int (Int32.ofNat 9)] h (am_pV Q3 X3) ∧ (∀ h2, Q3 h2 →
   am_Ev tt 96 11 [some (.ref a0), some (.int (Int32.ofNat 0))] [] h2 (am_pV Q Qx)) ∧ (∀ E4 h2, X3 E4 h2 → Qx E4 h2)))) :
  am_Ev tt 96 0 [some (.ref a0), none] [] h (am_pV Q Qx) := am_vc 9 [(11, [true, true])] q
theorem vc_96_11 (tt : Nat → Nat) (a0 : Nat) (a1 : Int32) (h : am_H) (Q : am_H → Prop) (Qx : String → am_H → Prop) (q :
  (am_K h a0 = 9 ∧
  (((am_I h 8 5 a0) ≤ (a1 + (Int32.ofNat 1)) →
   Q h) ∧
  (¬ ((am_I h 8 5 a0) ≤ (a1 + (Int32.ofNat 1))) →
   (am_K h a0 = 9 ∧ ∃ q1, am_R h 8 0 a0 = some q1 ∧
   ((am_K h q1 = 26 ∨ am_K h q1 = 27) ∧ vp_in a1 (am_N h q1) ∧ ∃ q2, am_C h q1 (a1).toNatClampNeg = some q2 ∧
   (am_K h q2 = 5 ∧
   (am_K h a0 = 9 ∧ ∃ q3, am_R h 8 0 a0 = some q3 ∧
   ((am_K h q3 = 26 ∨ am_K h q3 = 27) ∧ vp_in (a1 + (Int32.ofNat 1)) (am_N h q3) ∧ ∃ q4, am_C h q3 ((a1 + (Int32.ofNat 1))).toNatClampNeg = some q4 ∧
   (am_K h q4 = 5 ∧
   ((¬ (am_I h 4 5 q2) = (am_I h 4 5 q4) →
    am_Ev tt 96 11 [some (.ref a0), some (.int (a1 + (Int32.ofNat 1)))] [] h (am_pV Q Qx)) ∧
   (¬ (¬ (am_I h 4 5 q2) = (am_I h 4 5 q4)) →
    (am_K h a0 = 9 ∧ ∃ q5, am_R h 8 3 a0 = some q5 ∧
    (am_K h a0 = 9 ∧ ∃ q6, am_R h 8 0 a0 = some q6 ∧
    ((am_K h q6 = 26 ∨ am_K h q6 = 27) ∧ vp_in a1 (am_N h q6) ∧ ∃ q7, am_C h q6 (a1).toNatClampNeg = some q7 ∧
    (am_K h q7 = 5 ∧
    (am_K h q5 = 7 ∧ ∃ (Q9 : am_H → Prop) (X9 : String → am_H → Prop), am_Ct tt 71 [.ref q5, .long ((am_I h 4 3 q7)).toInt64] h (am_pV Q9 X9) ∧ (∀ h8, Q9 h8 →
     am_Ev tt 96 11 [some (.ref a0), some (.int (a1 + (Int32.ofNat 1)))] [] h8 (am_pV Q Qx)) ∧ (∀ E10 h8, X9 E10 h8 → Qx E10 h8)))))))))))))))))) :
  am_Ev tt 96 11 [some (.ref a0), some (.int a1)] [] h (am_pV Q Qx) := am_vc 33 [(11, [true, true])] q

/-! 94 yX8_addFiles -/
theorem vc_94_0 (tt : Nat → Nat) (a0 : Nat) (h : am_H) (Q : am_H → Prop) (Qx : String → am_H → Prop) (q :
  (am_K h a0 = 9 ∧ ∃ q1, am_R h 8 3 a0 = some q1 ∧
  (am_K h q1 = 7 ∧ ∃ (Q3 : am_H → Prop) (X3 : String → am_H → Prop), am_Ct tt 68 [.ref q1, .int (Int32.ofNat 8)] h (am_pV Q3 X3) ∧ (∀ h2, Q3 h2 →
   (am_K h2 a0 = 9 ∧
   (am_K h2 a0 = 9 ∧
   (((am_I h2 8 5 a0) ≤ (am_I h2 8 6 a0) →
    (am_K h2 a0 = 9 ∧ ∃ q4, am_R h2 8 3 a0 = some q4 ∧
    (am_K h2 q4 = 7 ∧ ∃ (Q6 : am_H → Prop) (X6 : String → am_H → Prop), am_Ct tt 68 [.ref q4, .int (Int32.ofNat 10)] h2 (am_pV Q6 X6) ∧ (∀ h5, Q6 h5 →
     (am_K h5 a0 = 9 ∧ ∃ q7, am_R h5 8 3 a0 = some q7 ∧
     (am_K h5 q7 = 7 ∧ ∃ (Q9 : am_H → Prop) (X9 : String → am_H → Prop), am_Ct tt 68 [.ref q7, .int (Int32.ofNat 1)] h5 (am_pV Q9 X9) ∧ (∀ h8, Q9 h8 →
      am_Ev tt 94 47 [some (.ref a0), some (.int (Int32.ofNat 0))] [] h8 (am_pV Q Qx)) ∧ (∀ E10 h8, X9 E10 h8 → Qx E10 h8)))) ∧ (∀ E11 h5, X6 E11 h5 → Qx E11 h5)))) ∧
   (¬ ((am_I h2 8 5 a0) ≤ (am_I h2 8 6 a0)) →
    (am_K h2 a0 = 9 ∧ ∃ (Q13 : am_H → Prop) (X13 : String → am_H → Prop), am_Ct tt 95 [.ref a0] h2 (am_pV Q13 X13) ∧ (∀ h12, Q13 h12 →
     (am_K h12 a0 = 9 ∧ ∃ (Q15 : am_H → Prop) (X15 : String → am_H → Prop), am_Ct tt 96 [.ref a0] h12 (am_pV Q15 X15) ∧ (∀ h14, Q15 h14 →
      (am_K h14 a0 = 9 ∧ ∃ q16, am_R h14 8 3 a0 = some q16 ∧
      (am_K h14 q16 = 7 ∧ ∃ (Q18 : am_H → Prop) (X18 : String → am_H → Prop), am_Ct tt 68 [.ref q16, .int (Int32.ofNat 10)] h14 (am_pV Q18 X18) ∧ (∀ h17, Q18 h17 →
       (am_K h17 a0 = 9 ∧ ∃ q19, am_R h17 8 3 a0 = some q19 ∧
       (am_K h17 q19 = 7 ∧ ∃ (Q21 : am_H → Prop) (X21 : String → am_H → Prop), am_Ct tt 68 [.ref q19, .int (Int32.ofNat 1)] h17 (am_pV Q21 X21) ∧ (∀ h20, Q21 h20 →
        am_Ev tt 94 47 [some (.ref a0), some (.int (Int32.ofNat 0))] [] h20 (am_pV Q Qx)) ∧ (∀ E22 h20, X21 E22 h20 → Qx E22 h20)))) ∧ (∀ E23 h17, X18 E23 h17 → Qx E23 h17)))) ∧ (∀ E24 h14, X15 E24 h14 → Qx E24 h14))) ∧ (∀ E25 h12, X13 E25 h12 → Qx E25 h12))))))) ∧ (∀ E26 h2, X3 E26 h2 → Qx E26 h2)))) :
  am_Ev tt 94 0 [some (.ref a0), none] [] h (am_pV Q Qx) := am_vc 26 [(47, [true, true])] q
theorem vc_94_47 (tt : Nat → Nat) (a0 : Nat) (a1 : Int32) (h : am_H) (Q : am_H → Prop) (Qx : String → am_H → Prop) (q :
  (am_K h a0 = 9 ∧
  (((am_I h 8 5 a0) ≤ a1 →
   (am_K h a0 = 9 ∧ ∃ q1, am_R h 8 3 a0 = some q1 ∧
   (am_K h q1 = 7 ∧ ∃ (Q3 : am_H → Prop) (X3 : String → am_H → Prop), am_Ct tt 68 [.ref q1, .int (Int32.ofNat 0)] h (am_pV Q3 X3) ∧ (∀ h2, Q3 h2 →
    Q h2) ∧ (∀ E4 h2, X3 E4 h2 → Qx E4 h2)))) ∧
  (¬ ((am_I h 8 5 a0) ≤ a1) →
   (am_K h a0 = 9 ∧ ∃ q5, am_R h 8 3 a0 = some q5 ∧
   (am_K h a0 = 9 ∧ ∃ q6, am_R h 8 0 a0 = some q6 ∧
   ((am_K h q6 = 26 ∨ am_K h q6 = 27) ∧ vp_in a1 (am_N h q6) ∧ ∃ q7, am_C h q6 (a1).toNatClampNeg = some q7 ∧
   (am_K h q7 = 5 ∧ ∃ q8, am_R h 4 2 q7 = some q8 ∧
   (am_K h a0 = 9 ∧ ∃ q9, am_R h 8 0 a0 = some q9 ∧
   ((am_K h q9 = 26 ∨ am_K h q9 = 27) ∧ vp_in a1 (am_N h q9) ∧ ∃ q10, am_C h q9 (a1).toNatClampNeg = some q10 ∧
   (am_K h q10 = 5 ∧
   (∃ (Q12 : Int32 → am_H → Prop), am_Ct tt 126 [.ref q8, .int (Int32.ofNat 0), .int (am_I h 4 3 q10)] h (am_pI Q12 (fun _ _ => False)) ∧ (∀ x13 h11, Q12 x13 h11 →
    (am_K h11 q5 = 7 ∧ ∃ (Q15 : am_H → Prop) (X15 : String → am_H → Prop), am_Ct tt 70 [.ref q5, .long (x13).toInt64, .int (Int32.ofNat 4)] h11 (am_pV Q15 X15) ∧ (∀ h14, Q15 h14 →
     am_Ev tt 94 47 [some (.ref a0), some (.int (a1 + (Int32.ofNat 1)))] [] h14 (am_pV Q Qx)) ∧ (∀ E16 h14, X15 E16 h14 → Qx E16 h14))))))))))))))) :
  am_Ev tt 94 47 [some (.ref a0), some (.int a1)] [] h (am_pV Q Qx) := am_vc 26 [(47, [true, true])] q

def wok (a : sA) : Prop := rdy a ∧ ∀ b, b < 6 → sbo (a_E a) b (a_n a) ≤ 2400
theorem sbo_ex {E : Nat → sE} {b : Nat} : ∀ {n : Nat}, 0 < sbo E b n → ∃ i, i < n ∧ e_hm (E i) = b ∧ 0 < e_sz (E i)
  | 0, h => absurd h (Nat.lt_irrefl 0)
  | n + 1, h => by
    unfold sbo at h
    by_cases c : e_hm (E n) = b ∧ 0 < e_sz (E n)
    · exact ⟨n, by omega, c⟩
    · have : 0 < sbo E b n := by
        split at h <;> omega
      obtain ⟨i, hi, hb⟩ := sbo_ex this
      exact ⟨i, by omega, hb⟩
theorem sbo_sfo {E : Nat → sE} {b : Nat} : ∀ {n : Nat}, (0 < sbo E b n) = (0 < sfo E b n)
  | 0 => rfl
  | n + 1 => by
    have ih := iff_of_eq (sbo_sfo (E := E) (b := b) (n := n))
    unfold sbo sfo
    apply propext
    split <;> split <;> omega
theorem wok_kn {a : sA} (w : wok a) {b : Nat} (h : 0 < sbo (a_E a) b (a_n a)) : b_kn (a_B a b) = true := by
  obtain ⟨i, hi, h1, h2⟩ := sbo_ex h
  have := (w.1 i hi).2 h2
  rw [a_kn, h1] at this
  exact this
section WE
variable {tt : Nat → Nat} {h h' : am_H} {cd : Nat → Nat} {bb : Nat → Nat → Nat} {wa wt : Nat} {a : sA}
theorem tw_8 {v w : Int32} (e : v.toInt8 = w.toInt8) {h : am_H} : tw cd wt h [v] = tw cd wt h [w] := tp_b_8 e
theorem tw_a {l r : List Int32} : tw cd wt (tw cd wt h l) r = tw cd wt h (l ++ r) := tp_l_app
theorem WA.bk (x : WA tt h cd bb wa wt a) {b : Nat} (hb : b < 6) : am_K h (cd (c_bk wa b)) = 2 ∧ am_R h 1 0 (cd (c_bk wa b)) = some (cd (c_bi wa b)) ∧ am_K h (cd (c_bi wa b)) = 21 ∧ am_N h (cd (c_bi wa b)) = 3 ∧ am_R h 1 1 (cd (c_bk wa b)) = some (cd (c_bd wa b)) ∧ am_K h (cd (c_bd wa b)) = 21 ∧ am_N h (cd (c_bd wa b)) = 3 ∧ am_C h (cd (c_ba wa)) b = some (cd (c_bk wa b)) := by
  obtain ⟨a1, a2, a3, a4, a5, a6, a7, a8, a9⟩ := (x.1.2.2.2.2.1 wa x.1.1).1
  obtain ⟨t1, t2, t3, t4, t5, t6, t7, t8⟩ := a9 b hb
  exact ⟨t2, t3, t4, t5, t6, t7, t8, t1⟩
theorem WA.bv (x : WA tt h cd bb wa wt a) {b : Nat} (hb : b < 6) (kn : b_kn (a_B a b) = true) : am_I h 1 2 (cd (c_bk wa b)) = Int32.ofNat (b_cn (a_B a b)) ∧ b_cn (a_B a b) ≤ 3 ∧ ∀ j, j < b_cn (a_B a b) → am_A h (cd (c_bi wa b)) j = b_ck (a_B a b) j ∧ am_A h (cd (c_bd wa b)) j = b_cd (a_B a b) j := by
  obtain ⟨v1, c, v2, v3, v4, v5⟩ := x.2.1.2.2 b hb
  obtain ⟨e, v6⟩ := v5 kn
  subst e
  exact ⟨v3, v2, v6⟩
/-- the entry at a place of the order -/
theorem WX.en (x : WX tt h cd bb wa wt a) {j : Nat} (hj : j < a_n a) : am_C h (cd 21) j = some (cd (c_en wa (oo a j))) ∧ am_K h (cd (c_en wa (oo a j))) = 5 ∧ am_R h 4 0 (cd (c_en wa (oo a j))) = some (cd (c_un wa (oo a j))) ∧ am_K h (cd (c_un wa (oo a j))) = 25 ∧ am_N h (cd (c_un wa (oo a j))) = 20 ∧ am_R h 4 2 (cd (c_en wa (oo a j))) = some (bb wa (oo a j)) ∧ am_K h (bb wa (oo a j)) = 23 := by
  have hi := oo_lt x.1.2.2.1 hj
  have n24 := x.1.2.2.1.1
  obtain ⟨t1, t2, t3, t4, t5, t6, t7, t8, t9⟩ := (x.1.1.2.2.2.2.1 wa x.1.1.1).1.2.2.2.2.2.2.2.1 (oo a j) (by omega)
  exact ⟨x.2.2.2.2 j hj, t2, t3, t4, t5, t6, t7⟩
theorem WX.ev (x : WX tt h cd bb wa wt a) {j : Nat} (hj : j < a_n a) : ce_v h (cd (c_en wa (oo a j))) (cd (c_un wa (oo a j))) (bb wa (oo a j)) (a_E a (oo a j)) (a_kn a (oo a j) = true) := x.1.2.1.2.1 _ (oo_lt x.1.2.2.1 hj)
theorem WX.bN (x : WX tt h cd bb wa wt a) {j : Nat} (hj : j < a_n a) : am_N h (bb wa (oo a j)) ≤ 3840 := by
  have hi := oo_lt x.1.2.2.1 hj
  have n24 := x.1.2.2.1.1
  exact ((x.1.1.2.2.2.2.1 wa x.1.1.1).1.2.2.2.2.2.2.2.1 (oo a j) (by omega)).2.2.2.2.2.2.2.1
theorem ct_addCoderForm (x : WX tt h cd bb wa wt a) {k d : Int32} : am_Ct tt 93 [.ref (cd 20), .int k, .int d] h (am_pV (fun h' => h' = tw cd wt h (cform k d)) no_x) := by
  refine vc_93_0 tt _ _ _ h _ _ ⟨fun z1 => ⟨fun z0 => ⟨fun z2 => ⟨rfl, x.b fun h1 e1 x1 => x1.b fun h2 e2 x2 => x2.b fun h3 e3 x3 => x3.b fun h4 e4 _ => ?_⟩, fun z2 => ⟨rfl, x.b fun h1 e1 x1 => x1.b fun h2 e2 x2 => x2.b fun h3 e3 x3 => x3.b fun h4 e4 _ => ?_⟩⟩, fun z0 => x.b fun h1 e1 x1 => x1.b fun h2 e2 x2 => ?_⟩, fun z1 => x.b fun h1 e1 x1 => x1.b fun h2 e2 x2 => x2.n (m := 1) (by omega) rfl fun h3 e3 x3 => x3.b fun h4 e4 _ => ?_⟩
  · rw [e4, e3, e2, e1, cform, if_neg z1, if_neg z0, if_neg z2, tw_8 (v := Int32.ofNat 131844 >>> (Int32.ofNat 16 &&& 31)) (w := Int32.ofNat 2) (by decide), tw_8 (v := Int32.ofNat 131844 >>> (Int32.ofNat 8 &&& 31)) (w := Int32.ofNat 3) (by decide), tw_8 (v := Int32.ofNat 131844) (w := Int32.ofNat 4) (by decide)]
    simp only [tw_a, List.cons_append, List.nil_append, show nb 1 = [Int32.ofNat 1] from rfl]
  · rw [e4, e3, e2, e1, cform, if_neg z1, if_neg z0, if_pos (Classical.not_not.1 z2), tw_8 (v := Int32.ofNat 131842 >>> (Int32.ofNat 16 &&& 31)) (w := Int32.ofNat 2) (by decide), tw_8 (v := Int32.ofNat 131842 >>> (Int32.ofNat 8 &&& 31)) (w := Int32.ofNat 3) (by decide), tw_8 (v := Int32.ofNat 131842) (w := Int32.ofNat 2) (by decide)]
    simp only [tw_a, List.cons_append, List.nil_append, show nb 1 = [Int32.ofNat 1] from rfl]
  · rw [e2, e1, cform, if_neg z1, if_pos (Classical.not_not.1 z0)]
    simp only [tw_a, List.cons_append, List.nil_append, show nb 1 = [Int32.ofNat 1] from rfl]
  · rw [e4, e3, e2, e1, cform, if_pos (Classical.not_not.1 z1)]
    simp only [tw_a, List.cons_append, List.nil_append, show nb 1 = [Int32.ofNat 1] from rfl]
theorem mx_1 {n : Nat} (h : n ≤ 3) : (if Int32.ofNat 1 < Int32.ofNat n then Int32.ofNat n else Int32.ofNat 1) = Int32.ofNat (if n = 0 then 1 else n) := by
  simp (disch := omega) only [qi_lt, qi_le, qi_eq, qi_nn, qi_in, qi_add, qi_l, ql_i, ql_lt, ql_le, ql_eq, ql_add, qc_lt, qc_eq, qc_ge, qc_gt, qc_le]
  by_cases c : n = 0
  · rw [if_pos c, if_neg (by omega)]
  · rw [if_neg c]
    by_cases c1 : 1 < n
    · rw [if_pos c1]
    · rw [if_neg c1, show n = 1 by omega]
theorem ct_addFolder (x : WX tt h cd bb wa wt a) {b : Nat} (hb : b < 6) (kn : b_kn (a_B a b) = true) : am_Ct tt 92 [.ref (cd 20), .ref (cd (c_bk wa b))] h (am_pV (fun h' => h' = tw cd wt h (fold (a_B a b))) no_x) := by
  have hc3 := (x.1.bv hb kn).2.1
  have hcn : 1 ≤ cno (a_B a b) ∧ cno (a_B a b) ≤ 3 ∧ b_cn (a_B a b) ≤ cno (a_B a b) := by unfold cno; split <;> omega
  have key2 : ∀ (d i : Nat) (k : am_H) (l : List Int32), d + i = cno (a_B a b) - 1 → WX tt k cd bb wa wt a → k = tw cd wt h (l ++ (R0 i).flatMap (fun c => nb c ++ nb (c + 1))) →
      am_Ev tt 92 66 [some (.ref (cd 20)), none, some (.int (Int32.ofNat (cno (a_B a b)))), some (.int (Int32.ofNat (i + 1)))] [] k (am_pV (fun h' => h' = tw cd wt h (l ++ (R0 (cno (a_B a b) - 1)).flatMap (fun c => nb c ++ nb (c + 1)))) no_x) := by
    intro d
    induction d with
    | zero =>
      intro i k l e y ek
      refine vc_92_66 tt _ _ _ _ _ _ ?_
      have : i = cno (a_B a b) - 1 := by omega
      subst this
      simp (disch := omega) only [qi_lt, qi_le, qi_eq, qi_nn, qi_in, qi_add, qi_l, ql_i, ql_lt, ql_le, ql_eq, ql_add, qc_lt, qc_eq, qc_ge, qc_gt, qc_le, true_and, and_true, and_self, true_or, or_true, false_or, or_false, false_and, and_false, not_true_eq_false, not_false_eq_true, Classical.not_not, true_implies, false_implies, implies_true, exists_eq_left, exists_eq_left', Option.some.injEq, reduceIte, Nat.reduceEqDiff, Nat.reduceLT, Nat.reduceLeDiff, Nat.reduceAdd, Nat.reduceSub, Nat.reduceMul, eq_self, ne_eq, and_imp, forall_const, reduceCtorEq, am_w, List.map_cons, List.map_nil, List.sum_cons, List.sum_nil, Value.category, Nat.zero_le, Nat.le_refl]
      exact ⟨fun _ => ek, fun z => by omega⟩
    | succ d ih =>
      intro i k l e y ek
      refine vc_92_66 tt _ _ _ _ _ _ ?_
      simp (disch := omega) only [qi_sub, qi_lt, qi_le, qi_eq, qi_nn, qi_in, qi_add, qi_l, ql_i, ql_lt, ql_le, ql_eq, ql_add, qc_lt, qc_eq, qc_ge, qc_gt, qc_le, true_and, and_true, and_self, true_or, or_true, false_or, or_false, false_and, and_false, not_true_eq_false, not_false_eq_true, Classical.not_not, true_implies, false_implies, implies_true, exists_eq_left, exists_eq_left', Option.some.injEq, reduceIte, Nat.reduceEqDiff, Nat.reduceLT, Nat.reduceLeDiff, Nat.reduceAdd, Nat.reduceSub, Nat.reduceMul, eq_self, ne_eq, and_imp, forall_const, reduceCtorEq, am_w, List.map_cons, List.map_nil, List.sum_cons, List.sum_nil, Value.category, Nat.zero_le, Nat.le_refl]
      refine ⟨fun z => by omega, fun _ => y.n (m := i) (by omega) (by rw [Nat.add_sub_cancel]) fun h2 e2 x2 => x2.n (m := i + 1) (by omega) rfl fun h3 e3 x3 => ih (i + 1) h3 l (by omega) x3 ?_⟩
      rw [e3, e2, ek, tw_a, tw_a, fm_s]
      simp only [List.append_assoc]
  have key : ∀ (d i : Nat) (k : am_H), d + i = cno (a_B a b) → WX tt k cd bb wa wt a → k = tw cd wt h (nb (cno (a_B a b)) ++ (R0 i).flatMap (fun c => if c < b_cn (a_B a b) then cform (b_ck (a_B a b) c) (b_cd (a_B a b) c) else cform (Int32.ofNat 0) (Int32.ofNat 0))) →
      am_Ev tt 92 20 [some (.ref (cd 20)), some (.ref (cd (c_bk wa b))), some (.int (Int32.ofNat (cno (a_B a b)))), some (.int (Int32.ofNat i))] [] k (am_pV (fun h' => h' = tw cd wt h (fold (a_B a b))) no_x) := by
    intro d
    induction d with
    | zero =>
      intro i k e y ek
      refine vc_92_20 tt _ _ _ _ _ _ _ ?_
      have : i = cno (a_B a b) := by omega
      subst this
      simp (disch := omega) only [qi_lt, qi_le, qi_eq, qi_nn, qi_in, qi_add, qi_l, ql_i, ql_lt, ql_le, ql_eq, ql_add, qc_lt, qc_eq, qc_ge, qc_gt, qc_le, true_and, and_true, and_self, true_or, or_true, false_or, or_false, false_and, and_false, not_true_eq_false, not_false_eq_true, Classical.not_not, true_implies, false_implies, implies_true, exists_eq_left, exists_eq_left', Option.some.injEq, reduceIte, Nat.reduceEqDiff, Nat.reduceLT, Nat.reduceLeDiff, Nat.reduceAdd, Nat.reduceSub, Nat.reduceMul, eq_self, ne_eq, and_imp, forall_const, reduceCtorEq, am_w, List.map_cons, List.map_nil, List.sum_cons, List.sum_nil, Value.category, Nat.zero_le, Nat.le_refl]
      exact key2 (cno (a_B a b) - 1) 0 k _ (by omega) y (by rw [ek]; congr 1; exact (List.append_nil _).symm)
    | succ d ih =>
      intro i k e y ek
      have f := y.1.f
      have g := y.1.bk hb
      obtain ⟨v1, v2, v3⟩ := y.1.bv hb kn
      refine vc_92_20 tt _ _ _ _ _ _ _ ?_
      simp (disch := omega) only [f, g, v1, am_hs, qi_lt, qi_le, qi_eq, qi_nn, qi_in, qi_add, qi_l, ql_i, ql_lt, ql_le, ql_eq, ql_add, qc_lt, qc_eq, qc_ge, qc_gt, qc_le, true_and, and_true, and_self, true_or, or_true, false_or, or_false, false_and, and_false, not_true_eq_false, not_false_eq_true, Classical.not_not, true_implies, false_implies, implies_true, exists_eq_left, exists_eq_left', Option.some.injEq, reduceIte, Nat.reduceEqDiff, Nat.reduceLT, Nat.reduceLeDiff, Nat.reduceAdd, Nat.reduceSub, Nat.reduceMul, eq_self, ne_eq, and_imp, forall_const, reduceCtorEq, am_w, List.map_cons, List.map_nil, List.sum_cons, List.sum_nil, Value.category, Nat.zero_le, Nat.le_refl]
      refine ⟨fun z => by omega, fun _ => ⟨fun z => ⟨_, _, ct_addCoderForm y, fun k' e' => ih (i + 1) k' (by omega) (by rw [e']; exact y.tl _) ?_, fun _ _ z => z⟩, fun z => ⟨by omega, by omega, _, _, ct_addCoderForm y, fun k' e' => ih (i + 1) k' (by omega) (by rw [e']; exact y.tl _) ?_, fun _ _ z => z⟩⟩⟩
      · rw [e', ek, tw_a, fm_s, if_neg (by omega), List.append_assoc]
      · rw [e', (v3 i (by omega)).1, (v3 i (by omega)).2, ek, tw_a, fm_s, if_pos (by omega), List.append_assoc]
  obtain ⟨v1, v2, v3⟩ := x.1.bv hb kn
  have g := x.1.bk hb
  refine vc_92_0 tt _ _ h _ _ ?_
  rw [v1, mx_1 v2]
  refine ⟨g.1, by decide, x.n (m := cno (a_B a b)) (by omega) (by rw [qi_l (by unfold cno at hcn; omega)]; rfl) fun h2 e2 x2 => key (cno (a_B a b)) 0 h2 (by omega) x2 ?_⟩
  rw [e2]
  congr 1
  exact (List.append_nil _).symm
/-- one of the sums over the blocks -/
theorem WX.bo (x : WX tt h cd bb wa wt a) {b : Nat} (hb : b < 6) : am_Ct tt 8 [.ref (cd (c_ar wa)), .int (Int32.ofNat b)] h (am_pI (fun r h' => h' = h ∧ r = Int32.ofNat (sbo (a_E a) b (a_n a))) no_x) := ct_bytesOf (x.1.1.2.2.2.2.1 wa x.1.1.1).1 x.1.2.1 x.1.2.2.1 hb
theorem WX.fo (x : WX tt h cd bb wa wt a) {b : Nat} (hb : b < 6) : am_Ct tt 9 [.ref (cd (c_ar wa)), .int (Int32.ofNat b)] h (am_pI (fun r h' => h' = h ∧ r = Int32.ofNat (sfo (a_E a) b (a_n a))) no_x) := ct_filesOf (x.1.1.2.2.2.2.1 wa x.1.1.1).1 x.1.2.1 x.1.2.2.1 hb
theorem kb_le : kb a ≤ 6 := kbn_le (a := a) (b := 6)
theorem ct_addPackedSizes (x : WX tt h cd bb wa wt a) (w : wok a) : am_Ct tt 90 [.ref (cd 20)] h (am_pV (fun h' => h' = tw cd wt h ([Int32.ofNat 6] ++ (nb 0 ++ (nb (kb a) ++ ([Int32.ofNat 9] ++ (wSz a ++ [Int32.ofNat 0])))))) no_x) := by
  have hk := kb_le (a := a)
  have key : ∀ (d i : Nat) (k : am_H) (l : List Int32), d + i = 6 → WX tt k cd bb wa wt a → k = tw cd wt h (l ++ (R0 i).flatMap (fun b => if 0 < sbo (a_E a) b (a_n a) then nb (sbo (a_E a) b (a_n a)) else [])) →
      am_Ev tt 90 40 [some (.ref (cd 20)), some (.int (Int32.ofNat i)), none] [] k (am_pV (fun h' => h' = tw cd wt h (l ++ (wSz a ++ [Int32.ofNat 0]))) no_x) := by
    intro d
    induction d with
    | zero =>
      intro i k l e y ek
      have : i = 6 := by omega
      subst this
      refine vc_90_40 tt _ _ _ _ _ ⟨fun _ => y.b fun h2 e2 x2 => ?_, fun z => absurd (show Int32.ofNat 6 ≤ Int32.ofNat 6 by decide) z⟩
      rw [e2, ek, tw_a, List.append_assoc]; rfl
    | succ d ih =>
      intro i k l e y ek
      have f := y.1.f
      have hs := w.2 i (by omega)
      refine vc_90_40 tt _ _ _ _ _ ?_
      simp (disch := omega) only [f, qi_lt, qi_le, qi_eq, qi_nn, qi_in, qi_add, qi_l, ql_i, ql_lt, ql_le, ql_eq, ql_add, qc_lt, qc_eq, qc_ge, qc_gt, qc_le, true_and, and_true, and_self, true_or, or_true, false_or, or_false, false_and, and_false, not_true_eq_false, not_false_eq_true, Classical.not_not, true_implies, false_implies, implies_true, exists_eq_left, exists_eq_left', Option.some.injEq, reduceIte, Nat.reduceEqDiff, Nat.reduceLT, Nat.reduceLeDiff, Nat.reduceAdd, Nat.reduceSub, Nat.reduceMul, eq_self, ne_eq, and_imp, forall_const, reduceCtorEq, am_w, List.map_cons, List.map_nil, List.sum_cons, List.sum_nil, Value.category, Nat.zero_le, Nat.le_refl]
      refine ⟨fun z => by omega, fun _ => ⟨_, _, y.bo (by omega), fun r k' e' => ?_, fun _ _ z => z⟩⟩
      obtain ⟨e1, e2⟩ := e'
      subst e1 e2
      simp (disch := omega) only [qi_lt, qi_le, qi_eq, qi_nn, qi_in, qi_add, qi_l, ql_i, ql_lt, ql_le, ql_eq, ql_add, qc_lt, qc_eq, qc_ge, qc_gt, qc_le, true_and, and_true, and_self, true_or, or_true, false_or, or_false, false_and, and_false, not_true_eq_false, not_false_eq_true, Classical.not_not, true_implies, false_implies, implies_true, exists_eq_left, exists_eq_left', Option.some.injEq, reduceIte, Nat.reduceEqDiff, Nat.reduceLT, Nat.reduceLeDiff, Nat.reduceAdd, Nat.reduceSub, Nat.reduceMul, eq_self, ne_eq, and_imp, forall_const, reduceCtorEq, am_w, List.map_cons, List.map_nil, List.sum_cons, List.sum_nil, Value.category, Nat.zero_le, Nat.le_refl]
      refine ⟨fun z => ih (i + 1) k' l (by omega) y ?_, fun z => y.n (by omega) rfl fun h2 e2 x2 => ih (i + 1) h2 l (by omega) x2 ?_⟩
      · rw [ek, fm_s, if_neg (by omega), List.append_nil]
      · rw [e2, ek, tw_a, fm_s, if_pos (by omega), List.append_assoc]
  refine vc_90_0 tt _ h _ _ (x.b fun h1 e1 x1 => x1.n (m := 0) (by omega) rfl fun h2 e2 x2 => ?_)
  have f := x2.1.f
  refine ⟨f.1, _, x2.1.2.2.2.2.2.1, f.1, x2.n' (m := kb a) (by omega) (by rw [x2.2.2.2.1, qi_l (by omega)]) fun h3 e3 x3 => x3.b fun h4 e4 x4 => ?_⟩
  have := key 6 0 h4 ([Int32.ofNat 6] ++ (nb 0 ++ (nb (kb a) ++ [Int32.ofNat 9]))) (by omega) x4 (by rw [e4, e3, e2, e1, tw_a, tw_a, tw_a]; congr 1; simp only [List.append_assoc]; rfl)
  simp only [List.append_assoc] at this ⊢
  exact this
theorem ct_addFileCounts (x : WX tt h cd bb wa wt a) : am_Ct tt 95 [.ref (cd 20)] h (am_pV (fun h' => h' = tw cd wt h ([Int32.ofNat 13] ++ wFc a)) no_x) := by
  have n24 := x.1.2.2.1.1
  have key : ∀ (d i : Nat) (k : am_H), d + i = 6 → WX tt k cd bb wa wt a → k = tw cd wt h ([Int32.ofNat 13] ++ (R0 i).flatMap (fun b => if 0 < sfo (a_E a) b (a_n a) then nb (sfo (a_E a) b (a_n a)) else [])) →
      am_Ev tt 95 11 [some (.ref (cd 20)), some (.int (Int32.ofNat i)), none] [] k (am_pV (fun h' => h' = tw cd wt h ([Int32.ofNat 13] ++ wFc a)) no_x) := by
    intro d
    induction d with
    | zero =>
      intro i k e y ek
      have : i = 6 := by omega
      subst this
      exact vc_95_11 tt _ _ _ _ _ ⟨fun _ => ek, fun z => absurd (show Int32.ofNat 6 ≤ Int32.ofNat 6 by decide) z⟩
    | succ d ih =>
      intro i k e y ek
      have f := y.1.f
      have hs := sfo_le (E := a_E a) (b := i) (n := a_n a)
      refine vc_95_11 tt _ _ _ _ _ ?_
      simp (disch := omega) only [f, qi_lt, qi_le, qi_eq, qi_nn, qi_in, qi_add, qi_l, ql_i, ql_lt, ql_le, ql_eq, ql_add, qc_lt, qc_eq, qc_ge, qc_gt, qc_le, true_and, and_true, and_self, true_or, or_true, false_or, or_false, false_and, and_false, not_true_eq_false, not_false_eq_true, Classical.not_not, true_implies, false_implies, implies_true, exists_eq_left, exists_eq_left', Option.some.injEq, reduceIte, Nat.reduceEqDiff, Nat.reduceLT, Nat.reduceLeDiff, Nat.reduceAdd, Nat.reduceSub, Nat.reduceMul, eq_self, ne_eq, and_imp, forall_const, reduceCtorEq, am_w, List.map_cons, List.map_nil, List.sum_cons, List.sum_nil, Value.category, Nat.zero_le, Nat.le_refl]
      refine ⟨fun z => by omega, fun _ => ⟨_, _, y.fo (by omega), fun r k' e' => ?_, fun _ _ z => z⟩⟩
      obtain ⟨e1, e2⟩ := e'
      subst e1 e2
      simp (disch := omega) only [qi_lt, qi_le, qi_eq, qi_nn, qi_in, qi_add, qi_l, ql_i, ql_lt, ql_le, ql_eq, ql_add, qc_lt, qc_eq, qc_ge, qc_gt, qc_le, true_and, and_true, and_self, true_or, or_true, false_or, or_false, false_and, and_false, not_true_eq_false, not_false_eq_true, Classical.not_not, true_implies, false_implies, implies_true, exists_eq_left, exists_eq_left', Option.some.injEq, reduceIte, Nat.reduceEqDiff, Nat.reduceLT, Nat.reduceLeDiff, Nat.reduceAdd, Nat.reduceSub, Nat.reduceMul, eq_self, ne_eq, and_imp, forall_const, reduceCtorEq, am_w, List.map_cons, List.map_nil, List.sum_cons, List.sum_nil, Value.category, Nat.zero_le, Nat.le_refl]
      refine ⟨fun z => ih (i + 1) k' (by omega) y ?_, fun z => y.n (by omega) rfl fun h2 e2 x2 => ih (i + 1) h2 (by omega) x2 ?_⟩
      · rw [ek, fm_s, if_neg (by omega), List.append_nil]
      · rw [e2, ek, tw_a, fm_s, if_pos (by omega), List.append_assoc]
  exact vc_95_0 tt _ h _ _ (x.b fun h1 e1 x1 => key 6 0 h1 (by omega) x1 (by rw [e1]; rfl))
theorem ct_addFileSizes (x : WX tt h cd bb wa wt a) : am_Ct tt 96 [.ref (cd 20)] h (am_pV (fun h' => h' = tw cd wt h ([Int32.ofNat 9] ++ wFs a)) no_x) := by
  have wf := x.1.2.2.1
  have n24 := wf.1
  have hK := oK_le wf
  have key : ∀ (d i : Nat) (k : am_H), d + i = (oK a).length - 1 → WX tt k cd bb wa wt a → k = tw cd wt h ([Int32.ofNat 9] ++ (R0 i).flatMap (fun i => if e_hm (a_E a (oo a i)) = e_hm (a_E a (oo a (i + 1))) then nb (e_sz (a_E a (oo a i))) else [])) →
      am_Ev tt 96 11 [some (.ref (cd 20)), some (.int (Int32.ofNat i))] [] k (am_pV (fun h' => h' = tw cd wt h ([Int32.ofNat 9] ++ wFs a)) no_x) := by
    intro d
    induction d with
    | zero =>
      intro i k e y ek
      have f := y.1.f
      have y3 := y.2.2.1
      refine vc_96_11 tt _ _ _ _ _ ?_
      simp (disch := omega) only [f, y3, qi_lt, qi_le, qi_eq, qi_nn, qi_in, qi_add, qi_l, ql_i, ql_lt, ql_le, ql_eq, ql_add, qc_lt, qc_eq, qc_ge, qc_gt, qc_le, true_and, and_true, and_self, true_or, or_true, false_or, or_false, false_and, and_false, not_true_eq_false, not_false_eq_true, Classical.not_not, true_implies, false_implies, implies_true, exists_eq_left, exists_eq_left', Option.some.injEq, reduceIte, Nat.reduceEqDiff, Nat.reduceLT, Nat.reduceLeDiff, Nat.reduceAdd, Nat.reduceSub, Nat.reduceMul, eq_self, ne_eq, and_imp, forall_const, reduceCtorEq, am_w, List.map_cons, List.map_nil, List.sum_cons, List.sum_nil, Value.category, Nat.zero_le, Nat.le_refl]
      refine ⟨fun _ => ?_, fun z => by omega⟩
      have : i = (oK a).length - 1 := by omega
      subst this
      exact ek
    | succ d ih =>
      intro i k e y ek
      have f := y.1.f
      have y3 := y.2.2.1
      have g := y.en (j := i) (by omega)
      have g' := y.en (j := i + 1) (by omega)
      have v := y.ev (j := i) (by omega)
      have v' := y.ev (j := i + 1) (by omega)
      have w1 := wf.2.1 _ (oo_lt wf (j := i) (by omega))
      have w2 := wf.2.1 _ (oo_lt wf (j := i + 1) (by omega))
      have w14 := w1.2.2.2
      have w24 := w2.2.2.2
      have w13 := w1.2.2.1
      refine vc_96_11 tt _ _ _ _ _ ?_
      simp (disch := omega) only [f, y3, g, g', v.2.2.2.1, v.2.2.2.2.1, v'.2.2.2.2.1, qi_lt, qi_le, qi_eq, qi_nn, qi_in, qi_add, qi_l, ql_i, ql_lt, ql_le, ql_eq, ql_add, qc_lt, qc_eq, qc_ge, qc_gt, qc_le, true_and, and_true, and_self, true_or, or_true, false_or, or_false, false_and, and_false, not_true_eq_false, not_false_eq_true, Classical.not_not, true_implies, false_implies, implies_true, exists_eq_left, exists_eq_left', Option.some.injEq, reduceIte, Nat.reduceEqDiff, Nat.reduceLT, Nat.reduceLeDiff, Nat.reduceAdd, Nat.reduceSub, Nat.reduceMul, eq_self, ne_eq, and_imp, forall_const, reduceCtorEq, am_w, List.map_cons, List.map_nil, List.sum_cons, List.sum_nil, Value.category, Nat.zero_le, Nat.le_refl]
      refine ⟨fun z => by omega, fun _ => ⟨by omega, by omega, fun z => ih (i + 1) k (by omega) y ?_, fun z => ⟨by omega, (y.n' (m := e_sz (a_E a (oo a i))) (by omega) rfl fun h2 e2 x2 => ih (i + 1) h2 (by omega) x2 ?_).2⟩⟩⟩
      · rw [ek, fm_s, if_neg z, List.append_nil]
      · rw [e2, ek, tw_a, fm_s, if_pos z, List.append_assoc]
  exact vc_96_0 tt _ h _ _ (x.b fun h1 e1 x1 => key ((oK a).length - 1) 0 h1 (by omega) x1 (by rw [e1]; rfl))
end WE
