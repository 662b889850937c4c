/-! deps: 18a -/
/-! ===== the reference writes: the order, blocks, folders, rows ===== -/
/-! 166 yX10_sort -/
theorem vc_166_0 (tt : Nat → Nat) (a0 : Nat) (h : am_H) (Q : am_H → Prop) (Qx : String → am_H → Prop) (q :
  am_Ev tt 166 4 [some (.ref a0), some (.int (Int32.ofNat 0)), some (.int (Int32.ofNat 0)), none] [] h (am_pV Q Qx)) :
  am_Ev tt 166 0 [some (.ref a0), none, none, none] [] h (am_pV Q Qx) := am_vc 7 [(4, [true, true, true, false]), (12, [true, true, true, true])] q
theorem vc_166_4 (tt : Nat → Nat) (a0 : Nat) (a1 : Int32) (a2 : Int32) (h : am_H) (Q : am_H → Prop) (Qx : String → am_H → Prop) (q :
  (((Int32.ofNat 6) < a2 →
   Q h) ∧
  (¬ ((Int32.ofNat 6) < a2) →
   am_Ev tt 166 12 [some (.ref a0), some (.int a1), some (.int a2), some (.int (Int32.ofNat 0))] [] h (am_pV Q Qx)))) :
  am_Ev tt 166 4 [some (.ref a0), some (.int a1), some (.int a2), none] [] h (am_pV Q Qx) := am_vc 8 [(4, [true, true, true, false]), (12, [true, true, true, true])] q
theorem vc_166_12 (tt : Nat → Nat) (a0 : Nat) (a1 : Int32) (a2 : Int32) (a3 : Int32) (h : am_H) (Q : am_H → Prop) (Qx : String → am_H → Prop) (q :
  (am_K h a0 = 11 ∧
  (((am_I h 10 1 a0) ≤ a3 →
   am_Ev tt 166 4 [some (.ref a0), some (.int a1), some (.int (a2 + (Int32.ofNat 1))), none] [] h (am_pV Q Qx)) ∧
  (¬ ((am_I h 10 1 a0) ≤ a3) →
   ((¬ a2 = (Int32.ofNat 6) →
    (am_K h a0 = 11 ∧ ∃ q1, am_R h 10 9 a0 = some q1 ∧
    ((am_K h q1 = 21 ∨ am_K h q1 = 31) ∧ vp_in a3 (am_N h q1) ∧
    (((am_A h q1 (a3).toNatClampNeg) ≤ (Int32.ofNat 0) →
     am_Ev tt 166 12 [some (.ref a0), some (.int a1), some (.int a2), some (.int (a3 + (Int32.ofNat 1)))] [] h (am_pV Q Qx)) ∧
    (¬ ((am_A h q1 (a3).toNatClampNeg) ≤ (Int32.ofNat 0)) →
     (am_K h a0 = 11 ∧ ∃ q2, am_R h 10 11 a0 = some q2 ∧
     ((am_K h q2 = 21 ∨ am_K h q2 = 31) ∧ vp_in a3 (am_N h q2) ∧
     ((¬ (am_A h q2 (a3).toNatClampNeg) = a2 →
      am_Ev tt 166 12 [some (.ref a0), some (.int a1), some (.int a2), some (.int (a3 + (Int32.ofNat 1)))] [] h (am_pV Q Qx)) ∧
     (¬ (¬ (am_A h q2 (a3).toNatClampNeg) = a2) →
      (am_K h a0 = 11 ∧ ∃ q3, am_R h 10 25 a0 = some q3 ∧
      (am_K h q3 = 21 ∧ vp_in a1 (am_N h q3) ∧
      am_Ev tt 166 12 [some (.ref a0), some (.int (a1 + (Int32.ofNat 1))), some (.int a2), some (.int (a3 + (Int32.ofNat 1)))] [] (am_sA h q3 (a1).toNatClampNeg a3) (am_pV Q Qx)))))))))))) ∧
   (¬ (¬ a2 = (Int32.ofNat 6)) →
    (am_K h a0 = 11 ∧ ∃ q4, am_R h 10 9 a0 = some q4 ∧
    ((am_K h q4 = 21 ∨ am_K h q4 = 31) ∧ vp_in a3 (am_N h q4) ∧
    ((¬ (am_A h q4 (a3).toNatClampNeg) = (Int32.ofNat 0) →
     am_Ev tt 166 12 [some (.ref a0), some (.int a1), some (.int a2), some (.int (a3 + (Int32.ofNat 1)))] [] h (am_pV Q Qx)) ∧
    (¬ (¬ (am_A h q4 (a3).toNatClampNeg) = (Int32.ofNat 0)) →
     (am_K h a0 = 11 ∧ ∃ q5, am_R h 10 25 a0 = some q5 ∧
     (am_K h q5 = 21 ∧ vp_in a1 (am_N h q5) ∧
     am_Ev tt 166 12 [some (.ref a0), some (.int (a1 + (Int32.ofNat 1))), some (.int a2), some (.int (a3 + (Int32.ofNat 1)))] [] (am_sA h q5 (a1).toNatClampNeg a3) (am_pV Q Qx))))))))))))) :
  am_Ev tt 166 12 [some (.ref a0), some (.int a1), some (.int a2), some (.int a3)] [] h (am_pV Q Qx) := am_vc 29 [(4, [true, true, true, false]), (12, [true, true, true, true])] q

/-! 167 yX10_putBlock -/
theorem vc_167_0 (tt : Nat → Nat) (a0 : Nat) (a1 : Int32) (h : am_H) (Q : am_H → Prop) (Qx : String → am_H → Prop) (q :
  am_Ev tt 167 4 [some (.ref a0), some (.int a1), some (.int (Int32.ofNat 0)), some (.int (Int32.ofNat 0)), none] [] h (am_pV Q Qx)) :
  am_Ev tt 167 0 [some (.ref a0), some (.int a1), none, none, none] [] h (am_pV Q Qx) := am_vc 7 [(4, [true, true, true, true, false]), (15, [true, true, true, true, true]), (72, [true, true, true, true, false]), (116, [true, false, true, true, false])] q
theorem vc_167_4 (tt : Nat → Nat) (a0 : Nat) (a1 : Int32) (a2 : Int32) (a3 : Int32) (h : am_H) (Q : am_H → Prop) (Qx : String → am_H → Prop) (q :
  (am_K h a0 = 11 ∧
  (((am_I h 10 1 a0) ≤ a3 →
   am_Ev tt 167 72 [some (.ref a0), some (.int a1), some (.int a2), some (.int (Int32.ofNat 0)), none] [] h (am_pV Q Qx)) ∧
  (¬ ((am_I h 10 1 a0) ≤ a3) →
   am_Ev tt 167 15 [some (.ref a0), some (.int a1), some (.int a2), some (.int a3), some (.int (Int32.ofNat 0))] [] h (am_pV Q Qx))))) :
  am_Ev tt 167 4 [some (.ref a0), some (.int a1), some (.int a2), some (.int a3), none] [] h (am_pV Q Qx) := am_vc 9 [(4, [true, true, true, true, false]), (15, [true, true, true, true, true]), (72, [true, true, true, true, false]), (116, [true, false, true, true, false])] q
theorem vc_167_15 (tt : Nat → Nat) (a0 : Nat) (a1 : Int32) (a2 : Int32) (a3 : Int32) (a4 : Int32) (h : am_H) (Q : am_H → Prop) (Qx : String → am_H → Prop) (q :
  (am_K h a0 = 11 ∧ ∃ q1, am_R h 10 11 a0 = some q1 ∧
  ((am_K h q1 = 21 ∨ am_K h q1 = 31) ∧ vp_in a3 (am_N h q1) ∧
  ((¬ (am_A h q1 (a3).toNatClampNeg) = a1 →
   am_Ev tt 167 4 [some (.ref a0), some (.int a1), some (.int a2), some (.int (a3 + (Int32.ofNat 1))), none] [] h (am_pV Q Qx)) ∧
  (¬ (¬ (am_A h q1 (a3).toNatClampNeg) = a1) →
   (am_K h a0 = 11 ∧ ∃ q2, am_R h 10 9 a0 = some q2 ∧
   ((am_K h q2 = 21 ∨ am_K h q2 = 31) ∧ vp_in a3 (am_N h q2) ∧
   (((am_A h q2 (a3).toNatClampNeg) ≤ a4 →
    am_Ev tt 167 4 [some (.ref a0), some (.int a1), some (.int a2), some (.int (a3 + (Int32.ofNat 1))), none] [] h (am_pV Q Qx)) ∧
   (¬ ((am_A h q2 (a3).toNatClampNeg) ≤ a4) →
    (am_K h a0 = 11 ∧ ∃ q3, am_R h 10 21 a0 = some q3 ∧
    (am_K h a0 = 11 ∧ ∃ q4, am_R h 10 10 a0 = some q4 ∧
    ((am_K h q4 = 23 ∨ am_K h q4 = 24) ∧ vp_in (((Int32.ofNat 2400) * a3) + a4) (am_N h q4) ∧
    (vp_in a2 (am_N h q3) ∧ ∃ w5, ((am_K h q3 = 23 ∧ w5 = ((am_A h q4 ((((Int32.ofNat 2400) * a3) + a4)).toNatClampNeg)).toInt8.toInt32) ∨ (am_K h q3 = 24 ∧ w5 = ((am_A h q4 ((((Int32.ofNat 2400) * a3) + a4)).toNatClampNeg) &&& 1))) ∧
    am_Ev tt 167 15 [some (.ref a0), some (.int a1), some (.int (a2 + (Int32.ofNat 1))), some (.int a3), some (.int (a4 + (Int32.ofNat 1)))] [] (am_sA h q3 (a2).toNatClampNeg w5) (am_pV Q Qx)))))))))))))) :
  am_Ev tt 167 15 [some (.ref a0), some (.int a1), some (.int a2), some (.int a3), some (.int a4)] [] h (am_pV Q Qx) := am_vc 30 [(4, [true, true, true, true, false]), (15, [true, true, true, true, true]), (72, [true, true, true, true, false]), (116, [true, false, true, true, false])] q
theorem vc_167_72 (tt : Nat → Nat) (a0 : Nat) (a1 : Int32) (a2 : Int32) (a3 : Int32) (h : am_H) (Q : am_H → Prop) (Qx : String → am_H → Prop) (q :
  (am_K h a0 = 11 ∧ ∃ q1, am_R h 10 14 a0 = some q1 ∧
  ((am_K h q1 = 21 ∨ am_K h q1 = 31) ∧ vp_in a1 (am_N h q1) ∧
  (((am_A h q1 (a1).toNatClampNeg) ≤ a3 →
   am_Ev tt 167 116 [some (.ref a0), none, some (.int a2), some (.int (Int32.ofNat 0)), none] [] h (am_pV Q Qx)) ∧
  (¬ ((am_A h q1 (a1).toNatClampNeg) ≤ a3) →
   (am_K h a0 = 11 ∧ ∃ q2, am_R h 10 15 a0 = some q2 ∧
   ((am_K h q2 = 21 ∨ am_K h q2 = 31) ∧ vp_in (((Int32.ofNat 3) * a1) + a3) (am_N h q2) ∧
   (am_K h a0 = 11 ∧ ∃ q3, am_R h 10 16 a0 = some q3 ∧
   ((am_K h q3 = 21 ∨ am_K h q3 = 31) ∧ vp_in (((Int32.ofNat 3) * a1) + a3) (am_N h q3) ∧
   (am_K h a0 = 11 ∧ ∃ (Q5 : am_H → Prop) (X5 : String → am_H → Prop), am_Ct tt 133 [.ref a0, .int (am_A h q2 ((((Int32.ofNat 3) * a1) + a3)).toNatClampNeg), .int (am_A h q3 ((((Int32.ofNat 3) * a1) + a3)).toNatClampNeg), .int a2, .int (Int32.ofNat 0)] h (am_pV Q5 X5) ∧ (∀ h4, Q5 h4 →
    am_Ev tt 167 72 [some (.ref a0), some (.int a1), some (.int a2), some (.int (a3 + (Int32.ofNat 1))), none] [] h4 (am_pV Q Qx)) ∧ (∀ E6 h4, X5 E6 h4 → Qx E6 h4))))))))))) :
  am_Ev tt 167 72 [some (.ref a0), some (.int a1), some (.int a2), some (.int a3), none] [] h (am_pV Q Qx) := am_vc 31 [(4, [true, true, true, true, false]), (15, [true, true, true, true, true]), (72, [true, true, true, true, false]), (116, [true, false, true, true, false])] q
theorem vc_167_116 (tt : Nat → Nat) (a0 : Nat) (a2 : Int32) (a3 : Int32) (h : am_H) (Q : am_H → Prop) (Qx : String → am_H → Prop) (q :
  ((a2 ≤ a3 →
   Q h) ∧
  (¬ (a2 ≤ a3) →
   (am_K h a0 = 11 ∧ ∃ q1, am_R h 10 21 a0 = some q1 ∧
   ((am_K h q1 = 23 ∨ am_K h q1 = 24) ∧ vp_in a3 (am_N h q1) ∧
   (am_K h a0 = 11 ∧ ∃ (Q3 : am_H → Prop) (X3 : String → am_H → Prop), am_Ct tt 159 [.ref a0, .int (am_A h q1 (a3).toNatClampNeg)] h (am_pV Q3 X3) ∧ (∀ h2, Q3 h2 →
    am_Ev tt 167 116 [some (.ref a0), none, some (.int a2), some (.int (a3 + (Int32.ofNat 1))), none] [] h2 (am_pV Q Qx)) ∧ (∀ E4 h2, X3 E4 h2 → Qx E4 h2))))))) :
  am_Ev tt 167 116 [some (.ref a0), none, some (.int a2), some (.int a3), none] [] h (am_pV Q Qx) := am_vc 14 [(4, [true, true, true, true, false]), (15, [true, true, true, true, true]), (72, [true, true, true, true, false]), (116, [true, false, true, true, false])] q

/-! 169 yX10_putFolder -/
theorem vc_169_0 (tt : Nat → Nat) (a0 : Nat) (a1 : Int32) (h : am_H) (Q : am_H → Prop) (Qx : String → am_H → Prop) (q :
  (am_K h a0 = 11 ∧ ∃ q1, am_R h 10 14 a0 = some q1 ∧
  ((am_K h q1 = 21 ∨ am_K h q1 = 31) ∧ vp_in a1 (am_N h q1) ∧
  ((¬ (am_A h q1 (a1).toNatClampNeg) = (Int32.ofNat 0) →
   (am_K h a0 = 11 ∧ ∃ q2, am_R h 10 14 a0 = some q2 ∧
   ((am_K h q2 = 21 ∨ am_K h q2 = 31) ∧ vp_in a1 (am_N h q2) ∧
   (am_K h a0 = 11 ∧ ∃ (Q4 : am_H → Prop) (X4 : String → am_H → Prop), am_Ct tt 160 [.ref a0, .long ((am_A h q2 (a1).toNatClampNeg)).toInt64] h (am_pV Q4 X4) ∧ (∀ h3, Q4 h3 →
    am_Ev tt 169 28 [some (.ref a0), some (.int a1), some (.int (am_A h q2 (a1).toNatClampNeg)), some (.int (Int32.ofNat 0))] [] h3 (am_pV Q Qx)) ∧ (∀ E5 h3, X4 E5 h3 → Qx E5 h3))))) ∧
  (¬ (¬ (am_A h q1 (a1).toNatClampNeg) = (Int32.ofNat 0)) →
   (am_K h a0 = 11 ∧ ∃ (Q7 : am_H → Prop) (X7 : String → am_H → Prop), am_Ct tt 160 [.ref a0, .long ((Int32.ofNat 1)).toInt64] h (am_pV Q7 X7) ∧ (∀ h6, Q7 h6 →
    am_Ev tt 169 28 [some (.ref a0), some (.int a1), some (.int (Int32.ofNat 1)), some (.int (Int32.ofNat 0))] [] h6 (am_pV Q Qx)) ∧ (∀ E8 h6, X7 E8 h6 → Qx E8 h6))))))) :
  am_Ev tt 169 0 [some (.ref a0), some (.int a1), none, none] [] h (am_pV Q Qx) := am_vc 19 [(28, [true, true, true, true]), (78, [true, false, true, true])] q
theorem vc_169_28 (tt : Nat → Nat) (a0 : Nat) (a1 : Int32) (a2 : Int32) (a3 : Int32) (h : am_H) (Q : am_H → Prop) (Qx : String → am_H → Prop) (q :
  ((a2 ≤ a3 →
   am_Ev tt 169 78 [some (.ref a0), none, some (.int a2), some (.int (Int32.ofNat 0))] [] h (am_pV Q Qx)) ∧
  (¬ (a2 ≤ a3) →
   (am_K h a0 = 11 ∧ ∃ q1, am_R h 10 14 a0 = some q1 ∧
   ((am_K h q1 = 21 ∨ am_K h q1 = 31) ∧ vp_in a1 (am_N h q1) ∧
   ((¬ (am_A h q1 (a1).toNatClampNeg) = (Int32.ofNat 0) →
    (am_K h a0 = 11 ∧ ∃ q2, am_R h 10 15 a0 = some q2 ∧
    ((am_K h q2 = 21 ∨ am_K h q2 = 31) ∧ vp_in (((Int32.ofNat 3) * a1) + a3) (am_N h q2) ∧
    (am_K h a0 = 11 ∧ ∃ q3, am_R h 10 16 a0 = some q3 ∧
    ((am_K h q3 = 21 ∨ am_K h q3 = 31) ∧ vp_in (((Int32.ofNat 3) * a1) + a3) (am_N h q3) ∧
    (am_K h a0 = 11 ∧ ∃ (Q5 : am_H → Prop) (X5 : String → am_H → Prop), am_Ct tt 168 [.ref a0, .int (am_A h q2 ((((Int32.ofNat 3) * a1) + a3)).toNatClampNeg), .int (am_A h q3 ((((Int32.ofNat 3) * a1) + a3)).toNatClampNeg)] h (am_pV Q5 X5) ∧ (∀ h4, Q5 h4 →
     am_Ev tt 169 28 [some (.ref a0), some (.int a1), some (.int a2), some (.int (a3 + (Int32.ofNat 1)))] [] h4 (am_pV Q Qx)) ∧ (∀ E6 h4, X5 E6 h4 → Qx E6 h4))))))) ∧
   (¬ (¬ (am_A h q1 (a1).toNatClampNeg) = (Int32.ofNat 0)) →
    (am_K h a0 = 11 ∧ ∃ q7, am_R h 10 16 a0 = some q7 ∧
    ((am_K h q7 = 21 ∨ am_K h q7 = 31) ∧ vp_in (((Int32.ofNat 3) * a1) + a3) (am_N h q7) ∧
    (am_K h a0 = 11 ∧ ∃ (Q9 : am_H → Prop) (X9 : String → am_H → Prop), am_Ct tt 168 [.ref a0, .int (Int32.ofNat 0), .int (am_A h q7 ((((Int32.ofNat 3) * a1) + a3)).toNatClampNeg)] h (am_pV Q9 X9) ∧ (∀ h8, Q9 h8 →
     am_Ev tt 169 28 [some (.ref a0), some (.int a1), some (.int a2), some (.int (a3 + (Int32.ofNat 1)))] [] h8 (am_pV Q Qx)) ∧ (∀ E10 h8, X9 E10 h8 → Qx E10 h8))))))))))) :
  am_Ev tt 169 28 [some (.ref a0), some (.int a1), some (.int a2), some (.int a3)] [] h (am_pV Q Qx) := am_vc 31 [(28, [true, true, true, true]), (78, [true, false, true, true])] q
theorem vc_169_78 (tt : Nat → Nat) (a0 : Nat) (a2 : Int32) (a3 : Int32) (h : am_H) (Q : am_H → Prop) (Qx : String → am_H → Prop) (q :
  ((a2 ≤ (a3 + (Int32.ofNat 1)) →
   Q h) ∧
  (¬ (a2 ≤ (a3 + (Int32.ofNat 1))) →
   (am_K h a0 = 11 ∧ ∃ (Q2 : am_H → Prop) (X2 : String → am_H → Prop), am_Ct tt 160 [.ref a0, .long (a3).toInt64] h (am_pV Q2 X2) ∧ (∀ h1, Q2 h1 →
    (am_K h1 a0 = 11 ∧ ∃ (Q4 : am_H → Prop) (X4 : String → am_H → Prop), am_Ct tt 160 [.ref a0, .long ((a3 + (Int32.ofNat 1))).toInt64] h1 (am_pV Q4 X4) ∧ (∀ h3, Q4 h3 →
     am_Ev tt 169 78 [some (.ref a0), none, some (.int a2), some (.int (a3 + (Int32.ofNat 1)))] [] h3 (am_pV Q Qx)) ∧ (∀ E5 h3, X4 E5 h3 → Qx E5 h3))) ∧ (∀ E6 h1, X2 E6 h1 → Qx E6 h1))))) :
  am_Ev tt 169 78 [some (.ref a0), none, some (.int a2), some (.int a3)] [] h (am_pV Q Qx) := am_vc 20 [(28, [true, true, true, true]), (78, [true, false, true, true])] q

/-! 172 yX10_putRow -/
theorem vc_172_0 (tt : Nat → Nat) (a0 : Nat) (a1 : Int32) (a2 : Int32) (h : am_H) (Q : am_H → Prop) (Qx : String → am_H → Prop) (q :
  (am_K h a0 = 11 ∧ ∃ (Q2 : am_H → Prop) (X2 : String → am_H → Prop), am_Ct tt 159 [.ref a0, .int a1] h (am_pV Q2 X2) ∧ (∀ h1, Q2 h1 →
   (¬ (Int32.ofNat 8) = (Int32.ofNat 0) ∧
   (am_K h1 a0 = 11 ∧ ∃ (Q4 : am_H → Prop) (X4 : String → am_H → Prop), am_Ct tt 160 [.ref a0, .long (((a2 + (Int32.ofNat 7)) / (Int32.ofNat 8))).toInt64] h1 (am_pV Q4 X4) ∧ (∀ h3, Q4 h3 →
    (am_K h3 a0 = 11 ∧ ∃ (Q6 : am_H → Prop) (X6 : String → am_H → Prop), am_Ct tt 162 [.ref a0, .int a2] h3 (am_pV Q6 X6) ∧ (∀ h5, Q6 h5 →
     Q h5) ∧ (∀ E7 h5, X6 E7 h5 → Qx E7 h5))) ∧ (∀ E8 h3, X4 E8 h3 → Qx E8 h3)))) ∧ (∀ E9 h1, X2 E9 h1 → Qx E9 h1))) :
  am_Ev tt 172 0 [some (.ref a0), some (.int a1), some (.int a2)] [] h (am_pV Q Qx) := am_vc 17 [] q

theorem oB_nxt {a : sA} {b : Nat} : oP a b (a_n a) = (R0 (b + 1)).flatMap (fun b => oBn (a_E a) b (a_n a)) := by
  unfold oP
  rw [fm_s]
theorem oP_0 {a : sA} {b : Nat} : oP a b 0 = (R0 b).flatMap (fun b => oBn (a_E a) b (a_n a)) := List.append_nil _
section MP
variable {tt : Nat → Nat} {P : Nat → Prop} {h h' h'' : am_H} {m : Nat} {ad : Nat → Nat} {S : sS}
theorem RM.r25 (q : RM P h m ad S) {k : Nat} (hk : 21 ≤ k) (f : Nat → Int32) : RM P (am_cA h (ad k) f) m ad S := by
  have ne : ∀ i, i ≠ k → am_A (am_cA h (ad k) f) (ad i) = am_A h (ad i) := fun i hi => by simp only [am_hs]; rw [if_neg (fun z => hi (q.1.2.2 _ _ z))]
  exact q.same mfr.cA (fun f hf => rfl) (fun i h1 h2 => ne i (by omega)) rfl
/-- those that were ordered so far -/
def lq (f : Nat → Int32) (l : List Nat) : Prop := ∀ j, j < l.length → f j = Int32.ofNat (l.getD j 0)
theorem lq.sn {f : Nat → Int32} {l : List Nat} (q : lq f l) (i : Nat) : lq (va_up f l.length (Int32.ofNat i)) (l ++ [i]) := by
  intro j hj
  rw [List.length_append, List.length_singleton] at hj
  unfold va_up
  by_cases c : j = l.length
  · subst c
    rw [if_pos rfl, List.getD_eq_getElem?_getD, List.getElem?_append_right (Nat.le_refl _), Nat.sub_self]
    rfl
  · have hj' : j < l.length := by omega
    rw [if_neg c, q j hj', List.getD_eq_getElem?_getD, List.getD_eq_getElem?_getD, List.getElem?_append_left hj']
theorem ct_sort (q : RM P h m ad S) (wf : wfS S) : am_Ct tt 166 [.ref m] h (am_pV (fun h' => ∃ f, h' = am_cA h (ad 25) f ∧ ∀ j, j < a_n S.1 → f j = Int32.ofNat (oo S.1 j)) no_x) := by
  have n24 := wf.1.1
  have lA := oA_n wf.1
  have s0 := q.1
  have key2 : ∀ (b : Nat), b < 6 → ∀ (d i : Nat) (f : Nat → Int32) (Q : am_H → Prop), d + i = a_n S.1 → lq f (oP S.1 b i) →
      (∀ f', lq f' ((R0 (b + 1)).flatMap (fun b => oBn (a_E S.1) b (a_n S.1))) → am_Ev tt 166 4 [some (.ref m), some (.int (Int32.ofNat ((R0 (b + 1)).flatMap (fun b => oBn (a_E S.1) b (a_n S.1))).length)), some (.int (Int32.ofNat (b + 1))), none] [] (am_cA h (ad 25) f') (am_pV Q no_x)) →
      am_Ev tt 166 12 [some (.ref m), some (.int (Int32.ofNat (oP S.1 b i).length)), some (.int (Int32.ofNat b)), some (.int (Int32.ofNat i))] [] (am_cA h (ad 25) f) (am_pV Q no_x) := by
    intro b hb d
    induction d with
    | zero =>
      intro i f Q e hl hQ
      have q1 := q.r25 (k := 25) (by omega) f
      have q2 := q1.2.1
      have : i = a_n S.1 := by omega
      subst this
      refine vc_166_12 tt _ _ _ _ _ _ _ ?_
      simp (disch := omega) only [q1.1.1, q2, qi_lt, qi_le, qi_eq, qi_nn, qi_in, qi_add, qi_l, ql_i, ql_lt, ql_le, ql_eq, ql_add, qc_lt, qc_eq, qc_ge, qc_gt, qc_le, true_and, and_true, and_self, true_or, or_true, false_or, or_false, false_and, and_false, not_true_eq_false, not_false_eq_true, Classical.not_not, true_implies, false_implies, implies_true, exists_eq_left, exists_eq_left', Option.some.injEq, reduceIte, Nat.reduceEqDiff, Nat.reduceLT, Nat.reduceLeDiff, Nat.reduceAdd, Nat.reduceSub, Nat.reduceMul, eq_self, ne_eq, and_imp, forall_const, reduceCtorEq, am_w, List.map_cons, List.map_nil, List.sum_cons, List.sum_nil, Value.category, Nat.zero_le, Nat.le_refl]
      rw [oB_nxt] at hl ⊢
      exact hQ f hl
    | succ d ih =>
      intro i f Q e hl hQ
      have s := s0
      have q2 := q.2.1
      obtain ⟨y1, y2, y3, y4, y5, y6⟩ := q.2.2.1 i (by omega)
      obtain ⟨g1, g2, g3, g4⟩ := wf.1.2.1 i (by omega)
      have i24 : i < 24 := by omega
      have b6 : ¬ b = 6 := by omega
      obtain ⟨r, er⟩ := oP_p (a := S.1) (i := i + 1) hb (by omega)
      have lr : (oP S.1 b (i + 1)).length ≤ a_n S.1 := by rw [← lA, er, List.length_append]; omega
      have l0 : (oP S.1 b i).length ≤ (oP S.1 b (i + 1)).length := by unfold oP; rw [oBn_s]; simp only [List.length_append]; omega
      have nx := ih (i + 1)
      have st : oP S.1 b (i + 1) = oP S.1 b i ++ (if 0 < e_sz (a_E S.1 i) ∧ e_hm (a_E S.1 i) = b then [i] else []) := by unfold oP; rw [oBn_s, List.append_assoc]
      refine vc_166_12 tt _ _ _ _ _ _ _ ?_
      simp (disch := omega) only [s.1, md_f s, md_i s, q2, y4, y5, i24, b6, am_hs, qi_lt, qi_le, qi_eq, qi_nn, qi_in, qi_add, qi_l, ql_i, ql_lt, ql_le, ql_eq, ql_add, qc_lt, qc_eq, qc_ge, qc_gt, qc_le, true_and, and_true, and_self, true_or, or_true, false_or, or_false, false_and, and_false, not_true_eq_false, not_false_eq_true, Classical.not_not, true_implies, false_implies, implies_true, exists_eq_left, exists_eq_left', Option.some.injEq, reduceIte, Nat.reduceEqDiff, Nat.reduceLT, Nat.reduceLeDiff, Nat.reduceAdd, Nat.reduceSub, Nat.reduceMul, eq_self, ne_eq, and_imp, forall_const, reduceCtorEq, am_w, List.map_cons, List.map_nil, List.sum_cons, List.sum_nil, Value.category, Nat.zero_le, Nat.le_refl]
      refine ⟨fun z => by omega, fun _ => ⟨fun z => ?_, fun z => ⟨fun z2 => ?_, fun z2 => ⟨?_, ?_⟩⟩⟩⟩
      · rw [st, if_neg (by omega), List.append_nil] at nx
        exact nx f Q (by omega) hl hQ
      · rw [st, if_neg (by omega), List.append_nil] at nx
        exact nx f Q (by omega) hl hQ
      · rw [st, if_pos (by omega), List.length_append, List.length_singleton] at lr
        omega
      · rw [cA_sA]
        rw [st, if_pos (by omega)] at nx lr
        have := nx _ Q (by omega) (hl.sn i) hQ
        rw [List.length_append, List.length_singleton] at this
        exact this
  have key3 : ∀ (d i : Nat) (f : Nat → Int32), d + i = a_n S.1 → lq f (oK S.1 ++ oZn (a_E S.1) i) →
      am_Ev tt 166 12 [some (.ref m), some (.int (Int32.ofNat (oK S.1 ++ oZn (a_E S.1) i).length)), some (.int (Int32.ofNat 6)), some (.int (Int32.ofNat i))] [] (am_cA h (ad 25) f) (am_pV (fun h' => ∃ f, h' = am_cA h (ad 25) f ∧ ∀ j, j < a_n S.1 → f j = Int32.ofNat (oo S.1 j)) no_x) := by
    intro d
    induction d with
    | zero =>
      intro i f e hl
      have q1 := q.r25 (k := 25) (by omega) f
      have q2 := q1.2.1
      have : i = a_n S.1 := by omega
      subst this
      refine vc_166_12 tt _ _ _ _ _ _ _ ?_
      simp (disch := omega) only [q1.1.1, q2, qi_lt, qi_le, qi_eq, qi_nn, qi_in, qi_add, qi_l, ql_i, ql_lt, ql_le, ql_eq, ql_add, qc_lt, qc_eq, qc_ge, qc_gt, qc_le, true_and, and_true, and_self, true_or, or_true, false_or, or_false, false_and, and_false, not_true_eq_false, not_false_eq_true, Classical.not_not, true_implies, false_implies, implies_true, exists_eq_left, exists_eq_left', Option.some.injEq, reduceIte, Nat.reduceEqDiff, Nat.reduceLT, Nat.reduceLeDiff, Nat.reduceAdd, Nat.reduceSub, Nat.reduceMul, eq_self, ne_eq, and_imp, forall_const, reduceCtorEq, am_w, List.map_cons, List.map_nil, List.sum_cons, List.sum_nil, Value.category, Nat.zero_le, Nat.le_refl]
      refine vc_166_4 tt _ _ _ _ _ _ ⟨fun _ => ⟨f, rfl, fun j hj => ?_⟩, fun z => absurd (by decide) z⟩
      exact hl j (by show j < (oA S.1).length; rw [lA]; exact hj)
    | succ d ih =>
      intro i f e hl
      have s := s0
      have q2 := q.2.1
      obtain ⟨y1, y2, y3, y4, y5, y6⟩ := q.2.2.1 i (by omega)
      obtain ⟨g1, g2, g3, g4⟩ := wf.1.2.1 i (by omega)
      have i24 : i < 24 := by omega
      obtain ⟨r, er⟩ := oZn_p (E := a_E S.1) (i := i + 1) (d := d)
      rw [show i + 1 + d = a_n S.1 by omega] at er
      have lr : (oK S.1 ++ oZn (a_E S.1) (i + 1)).length ≤ a_n S.1 := by
        rw [← lA]
        unfold oA
        rw [er]
        simp only [List.length_append]
        omega
      have nx := ih (i + 1)
      have st : oK S.1 ++ oZn (a_E S.1) (i + 1) = (oK S.1 ++ oZn (a_E S.1) i) ++ (if e_sz (a_E S.1 i) = 0 then [i] else []) := by rw [oZn_s, List.append_assoc]
      have l0 : (oK S.1 ++ oZn (a_E S.1) i).length ≤ (oK S.1 ++ oZn (a_E S.1) (i + 1)).length := by rw [st, List.length_append (as := oK S.1 ++ oZn (a_E S.1) i)]; omega
      refine vc_166_12 tt _ _ _ _ _ _ _ ?_
      simp (disch := omega) only [s.1, md_f s, md_i s, q2, y4, i24, am_hs, qi_lt, qi_le, qi_eq, qi_nn, qi_in, qi_add, qi_l, ql_i, ql_lt, ql_le, ql_eq, ql_add, qc_lt, qc_eq, qc_ge, qc_gt, qc_le, true_and, and_true, and_self, true_or, or_true, false_or, or_false, false_and, and_false, not_true_eq_false, not_false_eq_true, Classical.not_not, true_implies, false_implies, implies_true, exists_eq_left, exists_eq_left', Option.some.injEq, reduceIte, Nat.reduceEqDiff, Nat.reduceLT, Nat.reduceLeDiff, Nat.reduceAdd, Nat.reduceSub, Nat.reduceMul, eq_self, ne_eq, and_imp, forall_const, reduceCtorEq, am_w, List.map_cons, List.map_nil, List.sum_cons, List.sum_nil, Value.category, Nat.zero_le, Nat.le_refl]
      refine ⟨fun z => by omega, fun _ => ⟨fun z => ?_, fun z => ⟨?_, ?_⟩⟩⟩
      · rw [st, if_neg (by omega), List.append_nil] at nx
        exact nx f (by omega) hl
      · rw [st, if_pos (by omega), List.length_append (as := oK S.1 ++ oZn (a_E S.1) i), List.length_singleton] at lr
        omega
      · rw [cA_sA]
        rw [st, if_pos (by omega)] at nx
        have := nx _ (by omega) (hl.sn i)
        rw [List.length_append (as := oK S.1 ++ oZn (a_E S.1) i), List.length_singleton] at this
        exact this
  have key : ∀ (d b : Nat) (f : Nat → Int32), d + b = 6 → lq f ((R0 b).flatMap (fun b => oBn (a_E S.1) b (a_n S.1))) → am_Ev tt 166 4 [some (.ref m), some (.int (Int32.ofNat ((R0 b).flatMap (fun b => oBn (a_E S.1) b (a_n S.1))).length)), some (.int (Int32.ofNat b)), none] [] (am_cA h (ad 25) f) (am_pV (fun h' => ∃ f, h' = am_cA h (ad 25) f ∧ ∀ j, j < a_n S.1 → f j = Int32.ofNat (oo S.1 j)) no_x) := by
    intro d
    induction d with
    | zero =>
      intro b f e hl
      have : b = 6 := by omega
      subst this
      refine vc_166_4 tt _ _ _ _ _ _ ⟨fun z => absurd z (by decide), fun _ => ?_⟩
      have := key3 (a_n S.1) 0 f (by omega) (by rw [show oK S.1 ++ oZn (a_E S.1) 0 = (R0 6).flatMap (fun b => oBn (a_E S.1) b (a_n S.1)) from List.append_nil _]; exact hl)
      rw [show oK S.1 ++ oZn (a_E S.1) 0 = (R0 6).flatMap (fun b => oBn (a_E S.1) b (a_n S.1)) from List.append_nil _] at this
      exact this
    | succ d ih =>
      intro b f e hl
      refine vc_166_4 tt _ _ _ _ _ _ ?_
      simp (disch := omega) only [qi_lt, qi_le, qi_eq, qi_nn, qi_in, qi_add, qi_l, ql_i, ql_lt, ql_le, ql_eq, ql_add, qc_lt, qc_eq, qc_ge, qc_gt, qc_le, true_and, and_true, and_self, true_or, or_true, false_or, or_false, false_and, and_false, not_true_eq_false, not_false_eq_true, Classical.not_not, true_implies, false_implies, implies_true, exists_eq_left, exists_eq_left', Option.some.injEq, reduceIte, Nat.reduceEqDiff, Nat.reduceLT, Nat.reduceLeDiff, Nat.reduceAdd, Nat.reduceSub, Nat.reduceMul, eq_self, ne_eq, and_imp, forall_const, reduceCtorEq, am_w, List.map_cons, List.map_nil, List.sum_cons, List.sum_nil, Value.category, Nat.zero_le, Nat.le_refl]
      refine ⟨fun z => by omega, fun _ => ?_⟩
      rw [← oP_0] at hl ⊢
      exact key2 b (by omega) (a_n S.1) 0 f _ (by omega) hl (fun f' hl' => ih (b + 1) f' (by omega) hl')
  have := key 6 0 (am_A h (ad 25)) (by omega) (fun j hj => absurd hj (Nat.not_lt_zero j))
  rw [cA_id] at this
  exact vc_166_0 tt _ h _ _ this
/-- a block's raw bytes, up to an entry -/
def rwn (a : sA) (b n : Nat) : List Int32 := (oBn (a_E a) b n).flatMap (fun i => eb (a_E a i))
theorem rwn_s {a : sA} {b n : Nat} : rwn a b (n + 1) = rwn a b n ++ (if e_hm (a_E a n) = b then eb (a_E a n) else []) := by
  unfold rwn
  rw [oBn_s, List.flatMap_append]
  congr 1
  by_cases c : e_hm (a_E a n) = b
  · rw [if_pos c]
    by_cases z : 0 < e_sz (a_E a n)
    · rw [if_pos ⟨z, c⟩, List.flatMap_cons, List.flatMap_nil, List.append_nil]
    · rw [if_neg (fun w => z w.1), show eb (a_E a n) = [] from by unfold eb; rw [show e_sz (a_E a n) = 0 by omega]; rfl]; rfl
  · rw [if_neg c, if_neg (fun w => c w.2)]; rfl
theorem eb_g {e : sE} {j : Nat} (h : j < e_sz e) : (eb e).getD j 0 = e_by e j := by
  rw [eb, List.getD_eq_getElem?_getD, List.getElem?_map]
  have := R0_g h
  unfold R0 at this
  rw [this]; rfl
theorem ct_putBlock {n b : Nat} (x : MX P h m ad S n) (w : wok S.1) (hb : b < 6) (hn : n + (pk2 S.1 b).length ≤ 9300) : am_Ct tt 167 [.ref m, .int (Int32.ofNat b)] h (am_pV (fun h' => ∃ f g, h' = ml m ad (am_cA (am_cA h (ad 22) g) (ad 21) f) (pk2 S.1 b)) no_x) := by
  have n24 := x.2.1.1.1
  have wf := x.2.1
  have s0 := x.1.1
  have ne12 : ad 21 ≠ ad 22 := x.ne (by omega)
  have ne13 : ad 21 ≠ ad 23 := x.ne (by omega)
  have hs := w.2 b hb
  have rl := raw_n (a := S.1) (b := b)
  have xF : ∀ f g, MX P (am_cA (am_cA h (ad 22) g) (ad 21) f) m ad S n := fun f g => (x.row (k := 22) (by omega) g).row (k := 21) (by omega) f
  rw [pk2_l] at hn
  -- put them
  have key3 : ∀ (d i : Nat) (f g : Nat → Int32), d + i = (raw S.1 b).length → (∀ j, j < (raw S.1 b).length → f j = cops (b_ck (a_B S.1 b)) (b_cd (a_B S.1 b)) (raw S.1 b).length 0 (b_cn (a_B S.1 b)) (fun j => by8 ((raw S.1 b).getD j 0)) j) →
      am_Ev tt 167 116 [some (.ref m), none, some (.int (Int32.ofNat (raw S.1 b).length)), some (.int (Int32.ofNat i)), none] [] (ml m ad (am_cA (am_cA h (ad 22) g) (ad 21) f) ((R0 i).map (cops (b_ck (a_B S.1 b)) (b_cd (a_B S.1 b)) (raw S.1 b).length 0 (b_cn (a_B S.1 b)) (fun j => by8 ((raw S.1 b).getD j 0))))) (am_pV (fun h' => ∃ f g, h' = ml m ad (am_cA (am_cA h (ad 22) g) (ad 21) f) (pk2 S.1 b)) no_x) := by
    intro d
    induction d with
    | zero =>
      intro i f g e hf
      have : i = (raw S.1 b).length := by omega
      subst this
      exact vc_167_116 tt _ _ _ _ _ _ ⟨fun _ => ⟨f, g, rfl⟩, fun z => absurd (Int32.le_refl _) z⟩
    | succ d ih =>
      intro i f g e hf
      have y := (xF f g).tl ((R0 i).map (cops (b_ck (a_B S.1 b)) (b_cd (a_B S.1 b)) (raw S.1 b).length 0 (b_cn (a_B S.1 b)) (fun j => by8 ((raw S.1 b).getD j 0))))
      rw [List.length_map, R0_l] at y
      have s := y.1.1
      have i28 : i < 2880 := by omega
      have A1 : am_A (ml m ad (am_cA (am_cA h (ad 22) g) (ad 21) f) ((R0 i).map (cops (b_ck (a_B S.1 b)) (b_cd (a_B S.1 b)) (raw S.1 b).length 0 (b_cn (a_B S.1 b)) (fun j => by8 ((raw S.1 b).getD j 0))))) (ad 21) = f := by rw [ml_A ne13, cA_A]
      refine vc_167_116 tt _ _ _ _ _ _ ?_
      simp (disch := omega) only [s.1, md_f s, A1, i28, qi_lt, qi_le, qi_eq, qi_nn, qi_in, qi_add, qi_l, ql_i, ql_lt, ql_le, ql_eq, ql_add, qc_lt, qc_eq, qc_ge, qc_gt, qc_le, true_and, and_true, and_self, true_or, or_true, false_or, or_false, false_and, and_false, not_true_eq_false, not_false_eq_true, Classical.not_not, true_implies, false_implies, implies_true, exists_eq_left, exists_eq_left', Option.some.injEq, reduceIte, Nat.reduceEqDiff, Nat.reduceLT, Nat.reduceLeDiff, Nat.reduceAdd, Nat.reduceSub, Nat.reduceMul, eq_self, ne_eq, and_imp, forall_const, reduceCtorEq, am_w, List.map_cons, List.map_nil, List.sum_cons, List.sum_nil, Value.category, Nat.zero_le, Nat.le_refl]
      refine ⟨fun z => by omega, fun _ => ⟨_, _, ct_mo s y.2.2.1 (by omega) rfl, fun k e' => ?_, fun _ _ z => z⟩⟩
      rw [ml_app] at e'
      have := ih (i + 1) f g (by omega) hf
      rw [R0_s, List.map_append] at this
      rw [e', hf i (by omega)]
      exact this
  -- the coders
  have key2 : ∀ (d i : Nat) (f g : Nat → Int32), d + i = (if b_kn (a_B S.1 b) = true then b_cn (a_B S.1 b) else 0) → (∀ j, j < (raw S.1 b).length → cops (b_ck (a_B S.1 b)) (b_cd (a_B S.1 b)) (raw S.1 b).length i (b_cn (a_B S.1 b) - i) f j = cops (b_ck (a_B S.1 b)) (b_cd (a_B S.1 b)) (raw S.1 b).length 0 (b_cn (a_B S.1 b)) (fun j => by8 ((raw S.1 b).getD j 0)) j) →
      am_Ev tt 167 72 [some (.ref m), some (.int (Int32.ofNat b)), some (.int (Int32.ofNat (raw S.1 b).length)), some (.int (Int32.ofNat i)), none] [] (am_cA (am_cA h (ad 22) g) (ad 21) f) (am_pV (fun h' => ∃ f g, h' = ml m ad (am_cA (am_cA h (ad 22) g) (ad 21) f) (pk2 S.1 b)) no_x) := by
    intro d
    induction d with
    | zero =>
      intro i f g e hf
      have y := xF f g
      have s := y.1.1
      obtain ⟨v1, v2, v3⟩ := y.1.2.2.2.1 b hb
      have e14 : am_A (am_cA (am_cA h (ad 22) g) (ad 21) f) (ad 14) b = Int32.ofNat (if b_kn (a_B S.1 b) = true then b_cn (a_B S.1 b) else 0) := by
        by_cases c : b_kn (a_B S.1 b) = true
        · rw [if_pos c]; exact (v2 c).1
        · rw [if_neg c]; exact v3 (by simpa using c)
      have c3 := (wf.1.2.2.1 b hb).1
      have hif : (if b_kn (a_B S.1 b) = true then b_cn (a_B S.1 b) else 0) ≤ 3 := by split <;> omega
      refine vc_167_72 tt _ _ _ _ _ _ _ ⟨s.1, _, (md_f s).2.2.2.2.2.2.2.2.2.2.2.2.1.1, Or.inl (md_f s).2.2.2.2.2.2.2.2.2.2.2.2.1.2.1, ?_, fun _ => ?_, fun z => ?_⟩
      · rw [(md_f s).2.2.2.2.2.2.2.2.2.2.2.2.1.2.2, qi_in (by omega)]; exact hb
      · have := key3 (raw S.1 b).length 0 f g (by omega) (fun j hj => by
          rw [← hf j hj]
          by_cases c : b_kn (a_B S.1 b) = true
          · rw [if_pos c] at e
            rw [show b_cn (a_B S.1 b) - i = 0 by omega]; rfl
          · have : (raw S.1 b).length = 0 := by
              rw [rl]
              apply Nat.eq_zero_of_not_pos
              intro z
              exact c (wok_kn w z)
            omega)
        exact this
      · exfalso
        apply z
        rw [qi_nn (by omega), e14, qi_le (by omega) (by omega)]
        omega
    | succ d ih =>
      intro i f g e hf
      have y := xF f g
      have s := y.1.1
      have c : b_kn (a_B S.1 b) = true := by
        by_cases c : b_kn (a_B S.1 b) = true
        · exact c
        · rw [if_neg c] at e; omega
      rw [if_pos c] at e
      obtain ⟨v1, v2, v3⟩ := x.1.2.2.2.1 b hb
      obtain ⟨v4, v5⟩ := v2 c
      obtain ⟨c3, w2⟩ := wf.1.2.2.1 b hb
      obtain ⟨w3, w4, w5⟩ := w2 c i (by omega)
      have u1 := (v5 i (by omega)).1
      have u2 := (v5 i (by omega)).2
      have b3 : 3 * b + i < 18 := by omega
      obtain ⟨dd, hd, hd2⟩ : ∃ dd, b_cd (a_B S.1 b) i = Int32.ofNat dd ∧ dd ≤ 256 ∧ (b_ck (a_B S.1 b) i = Int32.ofNat 1 → 1 ≤ dd) := by
        by_cases z : b_ck (a_B S.1 b) i = Int32.ofNat 1
        · obtain ⟨d, h1, h2, h3⟩ := w4 z
          exact ⟨d, h1, h3, fun _ => h2⟩
        · exact ⟨0, w5 z, by omega, fun z2 => absurd z2 z⟩
      refine vc_167_72 tt _ _ _ _ _ _ _ ?_
      simp (disch := omega) only [s0.1, md_f s0, md_i s0, v4, u1, u2, hd, hb, b3, qi_mul, am_hs, qi_lt, qi_le, qi_eq, qi_nn, qi_in, qi_add, qi_l, ql_i, ql_lt, ql_le, ql_eq, ql_add, qc_lt, qc_eq, qc_ge, qc_gt, qc_le, true_and, and_true, and_self, true_or, or_true, false_or, or_false, false_and, and_false, not_true_eq_false, not_false_eq_true, Classical.not_not, true_implies, false_implies, implies_true, exists_eq_left, exists_eq_left', Option.some.injEq, reduceIte, Nat.reduceEqDiff, Nat.reduceLT, Nat.reduceLeDiff, Nat.reduceAdd, Nat.reduceSub, Nat.reduceMul, eq_self, ne_eq, and_imp, forall_const, reduceCtorEq, am_w, List.map_cons, List.map_nil, List.sum_cons, List.sum_nil, Value.category, Nat.zero_le, Nat.le_refl]
      refine ⟨fun z => by omega, fun _ => ⟨_, _, ct_code s (by omega) (fun z => ⟨hd2.2 z, hd2.1⟩) (Or.inl rfl), fun k e' => ?_, fun _ _ z => z⟩⟩
      obtain ⟨o, e'⟩ := e'
      rw [if_pos rfl] at e'
      have e2 : k = am_cA (am_cA h (ad 22) o) (ad 21) (cop (b_ck (a_B S.1 b) i) dd (raw S.1 b).length f) := by
        rw [e', cA_A]
        simp only [am_cA, am_K, am_I, am_J, am_R, am_N, am_A, am_B, am_C, am_U, am_V, Prod.mk.injEq, true_and, and_true]
        funext a
        simp only [va_up]
        by_cases z1 : a = ad 21
        · rw [if_pos z1, if_pos z1]
        · rw [if_neg z1, if_neg z1]
          by_cases z2 : a = ad 22
          · rw [if_pos z2, if_pos z2, if_neg z1]
          · rw [if_neg z2, if_neg z2, if_neg z1, if_neg z2]
      rw [e2]
      refine ih (i + 1) _ o (by rw [if_pos c]; omega) (fun j hj => ?_)
      rw [← hf j hj, show b_cn (a_B S.1 b) - i = (b_cn (a_B S.1 b) - (i + 1)) + 1 by omega, cops, hd, qi_nn (by omega)]
  -- the bytes
  have key1 : ∀ (i : Nat), i < a_n S.1 → e_hm (a_E S.1 i) = b → ∀ (d j : Nat) (f : Nat → Int32) (Q : am_H → Prop), d + j = e_sz (a_E S.1 i) → (∀ k, k < (rwn S.1 b i).length + j → f k = by8 ((rwn S.1 b i ++ eb (a_E S.1 i)).getD k 0)) →
      (∀ f', (∀ k, k < (rwn S.1 b (i + 1)).length → f' k = by8 ((rwn S.1 b (i + 1)).getD k 0)) → am_Ev tt 167 4 [some (.ref m), some (.int (Int32.ofNat b)), some (.int (Int32.ofNat (rwn S.1 b (i + 1)).length)), some (.int (Int32.ofNat (i + 1))), none] [] (am_cA (am_cA h (ad 22) (am_A h (ad 22))) (ad 21) f') (am_pV Q no_x)) →
      am_Ev tt 167 15 [some (.ref m), some (.int (Int32.ofNat b)), some (.int (Int32.ofNat ((rwn S.1 b i).length + j))), some (.int (Int32.ofNat i)), some (.int (Int32.ofNat j))] [] (am_cA (am_cA h (ad 22) (am_A h (ad 22))) (ad 21) f) (am_pV Q no_x) := by
    intro i hi hm d
    have lrw : (rwn S.1 b (i + 1)).length ≤ 2400 := by
      have e1 : (rwn S.1 b (i + 1)).length = sbo (a_E S.1) b (i + 1) := raw_l
      have : ∀ d, sbo (a_E S.1) b (i + 1) ≤ sbo (a_E S.1) b (i + 1 + d) := by
        intro d
        induction d with
        | zero => exact Nat.le_refl _
        | succ d ih => exact Nat.le_trans ih (Nat.le_add_right _ _)
      have := this (a_n S.1 - (i + 1))
      rw [show i + 1 + (a_n S.1 - (i + 1)) = a_n S.1 by omega] at this
      omega
    have l1 : (rwn S.1 b (i + 1)).length = (rwn S.1 b i).length + e_sz (a_E S.1 i) := by rw [rwn_s, if_pos hm, List.length_append, eb_l]
    induction d with
    | zero =>
      intro j f Q e hf hQ
      have y := xF f (am_A h (ad 22))
      have s := y.1.1
      obtain ⟨y1, y2, y3, y4, y5, y6⟩ := x.1.2.2.1 i hi
      obtain ⟨g1, g2, g3, g4⟩ := wf.1.2.1 i hi
      have i24 : i < 24 := by omega
      have : j = e_sz (a_E S.1 i) := by omega
      subst this
      refine vc_167_15 tt _ _ _ _ _ _ _ _ ?_
      simp (disch := omega) only [s0.1, md_f s0, md_i s0, y4, y5, hm, i24, am_hs, qi_lt, qi_le, qi_eq, qi_nn, qi_in, qi_add, qi_l, ql_i, ql_lt, ql_le, ql_eq, ql_add, qc_lt, qc_eq, qc_ge, qc_gt, qc_le, true_and, and_true, and_self, true_or, or_true, false_or, or_false, false_and, and_false, not_true_eq_false, not_false_eq_true, Classical.not_not, true_implies, false_implies, implies_true, exists_eq_left, exists_eq_left', Option.some.injEq, reduceIte, Nat.reduceEqDiff, Nat.reduceLT, Nat.reduceLeDiff, Nat.reduceAdd, Nat.reduceSub, Nat.reduceMul, eq_self, ne_eq, and_imp, forall_const, reduceCtorEq, am_w, List.map_cons, List.map_nil, List.sum_cons, List.sum_nil, Value.category, Nat.zero_le, Nat.le_refl]
      rw [← l1] at hf ⊢
      exact hQ f (by rw [rwn_s, if_pos hm]; rw [rwn_s, if_pos hm] at hf; exact hf)
    | succ d ih =>
      intro j f Q e hf hQ
      have y := xF f (am_A h (ad 22))
      have s := y.1.1
      obtain ⟨y1, y2, y3, y4, y5, y6, y7, y8, y9, y10, y11, y12⟩ := x.1.2.2.1 i hi
      obtain ⟨g1, g2, g3, g4⟩ := wf.1.2.1 i hi
      have i24 : i < 24 := by omega
      have hj : j < e_sz (a_E S.1 i) := by omega
      have yb := y12 ((w.1 i hi).2 (by omega)) j hj
      have b1 : 2400 * i + j < 57600 := by omega
      have b2 : (rwn S.1 b i).length + j < 2880 := by omega
      refine vc_167_15 tt _ _ _ _ _ _ _ _ ?_
      simp (disch := omega) only [s0.1, md_f s0, md_i s0, y4, y5, hm, i24, yb, b1, b2, qi_mul, am_hs, qi_lt, qi_le, qi_eq, qi_nn, qi_in, qi_add, qi_l, ql_i, ql_lt, ql_le, ql_eq, ql_add, qc_lt, qc_eq, qc_ge, qc_gt, qc_le, true_and, and_true, and_self, true_or, or_true, false_or, or_false, false_and, and_false, not_true_eq_false, not_false_eq_true, Classical.not_not, true_implies, false_implies, implies_true, exists_eq_left, exists_eq_left', Option.some.injEq, reduceIte, Nat.reduceEqDiff, Nat.reduceLT, Nat.reduceLeDiff, Nat.reduceAdd, Nat.reduceSub, Nat.reduceMul, eq_self, ne_eq, and_imp, forall_const, reduceCtorEq, am_w, List.map_cons, List.map_nil, List.sum_cons, List.sum_nil, Value.category, Nat.zero_le, Nat.le_refl]
      refine ⟨fun z => by omega, fun _ => ?_⟩
      rw [cA_sA]
      refine ih (j + 1) _ Q (by omega) (fun k hk => ?_) hQ
      unfold va_up
      by_cases c : k = (rwn S.1 b i).length + j
      · rw [if_pos c, c, List.getD_eq_getElem?_getD, List.getElem?_append_right (by omega), ← List.getD_eq_getElem?_getD, Nat.add_sub_cancel_left, eb_g hj]
        rfl
      · rw [if_neg c]
        exact hf k (by omega)
  have key : ∀ (d i : Nat) (f : Nat → Int32), d + i = a_n S.1 → (∀ k, k < (rwn S.1 b i).length → f k = by8 ((rwn S.1 b i).getD k 0)) →
      am_Ev tt 167 4 [some (.ref m), some (.int (Int32.ofNat b)), some (.int (Int32.ofNat (rwn S.1 b i).length)), some (.int (Int32.ofNat i)), none] [] (am_cA (am_cA h (ad 22) (am_A h (ad 22))) (ad 21) f) (am_pV (fun h' => ∃ f g, h' = ml m ad (am_cA (am_cA h (ad 22) g) (ad 21) f) (pk2 S.1 b)) no_x) := by
    intro d
    induction d with
    | zero =>
      intro i f e hf
      have y := xF f (am_A h (ad 22))
      have : i = a_n S.1 := by omega
      subst this
      refine vc_167_4 tt _ _ _ _ _ _ _ ⟨y.1.1.1, fun _ => ?_, fun z => absurd (by rw [y.1.2.1]; exact Int32.le_refl _) z⟩
      exact key2 _ 0 f (am_A h (ad 22)) (Nat.add_zero _) (fun j hj => by
        rw [Nat.sub_zero]
        exact cops_loc (fun j hj => hf j hj) (fun c _ _ => ⟨rfl, rfl⟩) j hj)
    | succ d ih =>
      intro i f e hf
      have y := xF f (am_A h (ad 22))
      have s := y.1.1
      have q2 := y.1.2.1
      obtain ⟨y1, y2, y3, y4, y5, y6⟩ := x.1.2.2.1 i (by omega)
      obtain ⟨g1, g2, g3, g4⟩ := wf.1.2.1 i (by omega)
      have i24 : i < 24 := by omega
      refine vc_167_4 tt _ _ _ _ _ _ _ ?_
      simp (disch := omega) only [s.1, q2, qi_lt, qi_le, qi_eq, qi_nn, qi_in, qi_add, qi_l, ql_i, ql_lt, ql_le, ql_eq, ql_add, qc_lt, qc_eq, qc_ge, qc_gt, qc_le, true_and, and_true, and_self, true_or, or_true, false_or, or_false, false_and, and_false, not_true_eq_false, not_false_eq_true, Classical.not_not, true_implies, false_implies, implies_true, exists_eq_left, exists_eq_left', Option.some.injEq, reduceIte, Nat.reduceEqDiff, Nat.reduceLT, Nat.reduceLeDiff, Nat.reduceAdd, Nat.reduceSub, Nat.reduceMul, eq_self, ne_eq, and_imp, forall_const, reduceCtorEq, am_w, List.map_cons, List.map_nil, List.sum_cons, List.sum_nil, Value.category, Nat.zero_le, Nat.le_refl]
      refine ⟨fun z => by omega, fun _ => ?_⟩
      by_cases c : e_hm (a_E S.1 i) = b
      · have := key1 i (by omega) c (e_sz (a_E S.1 i)) 0 f _ (by omega) (fun k hk => ?_) (fun f' hf' => ih (i + 1) f' (by omega) hf')
        · exact this
        · rw [hf k hk, List.getD_eq_getElem?_getD, List.getD_eq_getElem?_getD, List.getElem?_append_left hk]
      · refine vc_167_15 tt _ _ _ _ _ _ _ _ ?_
        simp (disch := omega) only [s0.1, md_f s0, md_i s0, y5, c, i24, am_hs, qi_lt, qi_le, qi_eq, qi_nn, qi_in, qi_add, qi_l, ql_i, ql_lt, ql_le, ql_eq, ql_add, qc_lt, qc_eq, qc_ge, qc_gt, qc_le, true_and, and_true, and_self, true_or, or_true, false_or, or_false, false_and, and_false, not_true_eq_false, not_false_eq_true, Classical.not_not, true_implies, false_implies, implies_true, exists_eq_left, exists_eq_left', Option.some.injEq, reduceIte, Nat.reduceEqDiff, Nat.reduceLT, Nat.reduceLeDiff, Nat.reduceAdd, Nat.reduceSub, Nat.reduceMul, eq_self, ne_eq, and_imp, forall_const, reduceCtorEq, am_w, List.map_cons, List.map_nil, List.sum_cons, List.sum_nil, Value.category, Nat.zero_le, Nat.le_refl]
        have := ih (i + 1) f (by omega)
        rw [rwn_s, if_neg c, List.append_nil] at this
        exact this hf
  have := key (a_n S.1) 0 (am_A h (ad 21)) (by omega) (fun k hk => absurd hk (Nat.not_lt_zero k))
  rw [cA_id, cA_id] at this
  exact vc_167_0 tt _ _ h _ _ this
theorem ct_putFolder {n b : Nat} (x : MX P h m ad S n) (hb : b < 6) (kn : b_kn (a_B S.1 b) = true) (hn : n + (fold (a_B S.1 b)).length ≤ 9300) : am_Ct tt 169 [.ref m, .int (Int32.ofNat b)] h (am_pV (fun h' => h' = ml m ad h (fold (a_B S.1 b))) no_x) := by
  have wf := x.2.1
  have hc3 := (wf.1.2.2.1 b hb).1
  have hcn : 1 ≤ cno (a_B S.1 b) ∧ cno (a_B S.1 b) ≤ 3 ∧ b_cn (a_B S.1 b) ≤ cno (a_B S.1 b) ∧ (b_cn (a_B S.1 b) ≠ 0 → cno (a_B S.1 b) = b_cn (a_B S.1 b)) := by unfold cno; split <;> omega
  unfold fold at hn
  rw [List.length_append, List.length_append] at hn
  have key2 : ∀ (d i : Nat) (k : am_H) (l : List Int32), d + i = cno (a_B S.1 b) - 1 → n + l.length + ((R0 (cno (a_B S.1 b) - 1)).flatMap (fun c => nb c ++ nb (c + 1))).length ≤ 9300 → MX P k m ad S (n + (l ++ (R0 i).flatMap (fun c => nb c ++ nb (c + 1))).length) → k = ml m ad h (l ++ (R0 i).flatMap (fun c => nb c ++ nb (c + 1))) →
      am_Ev tt 169 78 [some (.ref m), none, some (.int (Int32.ofNat (cno (a_B S.1 b)))), some (.int (Int32.ofNat i))] [] k (am_pV (fun h' => h' = ml m ad h (l ++ (R0 (cno (a_B S.1 b) - 1)).flatMap (fun c => nb c ++ nb (c + 1)))) no_x) := by
    intro d
    induction d with
    | zero =>
      intro i k l e hl y ek
      refine vc_169_78 tt _ _ _ _ _ _ ?_
      have : i = cno (a_B S.1 b) - 1 := by omega
      subst this
      simp (disch := omega) only [qi_lt, qi_le, qi_eq, qi_nn, qi_in, qi_add, qi_l, ql_i, ql_lt, ql_le, ql_eq, ql_add, qc_lt, qc_eq, qc_ge, qc_gt, qc_le, true_and, and_true, and_self, true_or, or_true, false_or, or_false, false_and, and_false, not_true_eq_false, not_false_eq_true, Classical.not_not, true_implies, false_implies, implies_true, exists_eq_left, exists_eq_left', Option.some.injEq, reduceIte, Nat.reduceEqDiff, Nat.reduceLT, Nat.reduceLeDiff, Nat.reduceAdd, Nat.reduceSub, Nat.reduceMul, eq_self, ne_eq, and_imp, forall_const, reduceCtorEq, am_w, List.map_cons, List.map_nil, List.sum_cons, List.sum_nil, Value.category, Nat.zero_le, Nat.le_refl]
      exact ⟨fun _ => ek, fun z => by omega⟩
    | succ d ih =>
      intro i k l e hl y ek
      have fl := fm_le (g := fun c => nb c ++ nb (c + 1)) (i := i) (n := cno (a_B S.1 b) - 1) (by omega)
      rw [List.length_append] at y
      rw [List.length_append] at fl
      refine vc_169_78 tt _ _ _ _ _ _ ?_
      simp (disch := omega) only [qi_lt, qi_le, qi_eq, qi_nn, qi_in, qi_add, qi_l, ql_i, ql_lt, ql_le, ql_eq, ql_add, qc_lt, qc_eq, qc_ge, qc_gt, qc_le, true_and, and_true, and_self, true_or, or_true, false_or, or_false, false_and, and_false, not_true_eq_false, not_false_eq_true, Classical.not_not, true_implies, false_implies, implies_true, exists_eq_left, exists_eq_left', Option.some.injEq, reduceIte, Nat.reduceEqDiff, Nat.reduceLT, Nat.reduceLeDiff, Nat.reduceAdd, Nat.reduceSub, Nat.reduceMul, eq_self, ne_eq, and_imp, forall_const, reduceCtorEq, am_w, List.map_cons, List.map_nil, List.sum_cons, List.sum_nil, Value.category, Nat.zero_le, Nat.le_refl]
      refine ⟨fun z => by omega, fun _ => y.n (k := i) (by omega) (by omega) rfl fun h2 e2 x2 => x2.n (k := i + 1) (by omega) (by omega) rfl fun h3 e3 x3 => ih (i + 1) h3 l (by omega) hl ?_ ?_⟩
      · rw [fm_s]
        simp only [List.length_append]
        rw [show n + (l.length + (((R0 i).flatMap (fun c => nb c ++ nb (c + 1))).length + ((nb i).length + (nb (i + 1)).length))) = n + (l.length + ((R0 i).flatMap (fun c => nb c ++ nb (c + 1))).length) + (nb i).length + (nb (i + 1)).length by omega]
        exact x3
      · rw [e3, e2, ek, ml_app, ml_app, fm_s]
        simp only [List.append_assoc]
  have key : ∀ (d i : Nat) (k : am_H), d + i = cno (a_B S.1 b) → MX P k m ad S (n + (nb (cno (a_B S.1 b)) ++ (R0 i).flatMap (fun c => if c < b_cn (a_B S.1 b) then cform (b_ck (a_B S.1 b) c) (b_cd (a_B S.1 b) c) else cform (Int32.ofNat 0) (Int32.ofNat 0))).length) → k = ml m ad h (nb (cno (a_B S.1 b)) ++ (R0 i).flatMap (fun c => if c < b_cn (a_B S.1 b) then cform (b_ck (a_B S.1 b) c) (b_cd (a_B S.1 b) c) else cform (Int32.ofNat 0) (Int32.ofNat 0))) →
      am_Ev tt 169 28 [some (.ref m), some (.int (Int32.ofNat b)), some (.int (Int32.ofNat (cno (a_B S.1 b)))), some (.int (Int32.ofNat i))] [] k (am_pV (fun h' => h' = ml m ad h (fold (a_B S.1 b))) no_x) := by
    intro d
    induction d with
    | zero =>
      intro i k e y ek
      refine vc_169_28 tt _ _ _ _ _ _ _ ?_
      have : i = cno (a_B S.1 b) := by omega
      subst this
      simp (disch := omega) only [qi_lt, qi_le, qi_eq, qi_nn, qi_in, qi_add, qi_l, ql_i, ql_lt, ql_le, ql_eq, ql_add, qc_lt, qc_eq, qc_ge, qc_gt, qc_le, true_and, and_true, and_self, true_or, or_true, false_or, or_false, false_and, and_false, not_true_eq_false, not_false_eq_true, Classical.not_not, true_implies, false_implies, implies_true, exists_eq_left, exists_eq_left', Option.some.injEq, reduceIte, Nat.reduceEqDiff, Nat.reduceLT, Nat.reduceLeDiff, Nat.reduceAdd, Nat.reduceSub, Nat.reduceMul, eq_self, ne_eq, and_imp, forall_const, reduceCtorEq, am_w, List.map_cons, List.map_nil, List.sum_cons, List.sum_nil, Value.category, Nat.zero_le, Nat.le_refl]
      exact key2 (cno (a_B S.1 b) - 1) 0 k _ (by omega) (by rw [List.length_append]; omega) (by rw [show (R0 0).flatMap (fun c => nb c ++ nb (c + 1)) = [] from rfl, List.append_nil]; exact y) (by rw [ek]; congr 1; exact (List.append_nil _).symm)
    | succ d ih =>
      intro i k e y ek
      have s := y.1.1
      obtain ⟨v1, v2, v3⟩ := y.1.2.2.2.1 b hb
      obtain ⟨v4, v5⟩ := v2 kn
      have b3 : 3 * b + i < 18 := by omega
      have fl := fm_le (g := fun c => if c < b_cn (a_B S.1 b) then cform (b_ck (a_B S.1 b) c) (b_cd (a_B S.1 b) c) else cform (Int32.ofNat 0) (Int32.ofNat 0)) (i := i) (n := cno (a_B S.1 b)) (by omega)
      rw [List.length_append] at y
      have nx : ∀ kk dd k', (if i < b_cn (a_B S.1 b) then cform (b_ck (a_B S.1 b) i) (b_cd (a_B S.1 b) i) else cform (Int32.ofNat 0) (Int32.ofNat 0)) = cform kk dd → k' = ml m ad k (cform kk dd) → am_Ev tt 169 28 [some (.ref m), some (.int (Int32.ofNat b)), some (.int (Int32.ofNat (cno (a_B S.1 b)))), some (.int (Int32.ofNat (i + 1)))] [] k' (am_pV (fun h' => h' = ml m ad h (fold (a_B S.1 b))) no_x) := by
        intro kk dd k' ec e'
        refine ih (i + 1) k' (by omega) ?_ ?_
        · rw [fm_s, ec, List.length_append, List.length_append, ← Nat.add_assoc, ← Nat.add_assoc, e']
          rw [← Nat.add_assoc] at y
          exact y.tl _
        · rw [e', ek, ml_app, fm_s, ec, List.append_assoc]
      refine vc_169_28 tt _ _ _ _ _ _ _ ?_
      simp (disch := omega) only [s.1, md_f s, v4, hb, b3, qi_mul, am_hs, qi_lt, qi_le, qi_eq, qi_nn, qi_in, qi_add, qi_l, ql_i, ql_lt, ql_le, ql_eq, ql_add, qc_lt, qc_eq, qc_ge, qc_gt, qc_le, true_and, and_true, and_self, true_or, or_true, false_or, or_false, false_and, and_false, not_true_eq_false, not_false_eq_true, Classical.not_not, true_implies, false_implies, implies_true, exists_eq_left, exists_eq_left', Option.some.injEq, reduceIte, Nat.reduceEqDiff, Nat.reduceLT, Nat.reduceLeDiff, Nat.reduceAdd, Nat.reduceSub, Nat.reduceMul, eq_self, ne_eq, and_imp, forall_const, reduceCtorEq, am_w, List.map_cons, List.map_nil, List.sum_cons, List.sum_nil, Value.category, Nat.zero_le, Nat.le_refl]
      refine ⟨fun z => by omega, fun _ => ⟨fun z => ?_, fun z => ?_⟩⟩
      · have hi : i < b_cn (a_B S.1 b) := by have := hcn.2.2.2 z; omega
        rw [(v5 i hi).1, (v5 i hi).2]
        rw [if_pos hi] at fl
        exact ⟨_, _, ct_mcform y (by omega), fun k' e' => nx _ _ k' (by rw [if_pos hi]) e', fun _ _ z => z⟩
      · have c0 : ∀ dd, cform (Int32.ofNat 0) dd = cform (Int32.ofNat 0) (Int32.ofNat 0) := by
          intro dd
          unfold cform
          have hne : ¬ Int32.ofNat 0 = Int32.ofNat 1 := by decide
          rw [if_neg hne, if_neg hne, if_pos rfl]
        rw [if_neg (by omega)] at fl
        exact ⟨_, _, ct_mcform y (by rw [c0 (am_A k (ad 16) (3 * b + i))]; omega), fun k' e' => nx _ _ k' (by rw [if_neg (by omega)]; exact (c0 _).symm) e', fun _ _ z => z⟩
  have s := x.1.1
  obtain ⟨v1, v2, v3⟩ := x.1.2.2.2.1 b hb
  have v4 := (v2 kn).1
  refine vc_169_0 tt _ _ h _ _ ?_
  simp (disch := omega) only [s.1, md_f s, v4, hb, am_hs, qi_lt, qi_le, qi_eq, qi_nn, qi_in, qi_add, qi_l, ql_i, ql_lt, ql_le, ql_eq, ql_add, qc_lt, qc_eq, qc_ge, qc_gt, qc_le, true_and, and_true, and_self, true_or, or_true, false_or, or_false, false_and, and_false, not_true_eq_false, not_false_eq_true, Classical.not_not, true_implies, false_implies, implies_true, exists_eq_left, exists_eq_left', Option.some.injEq, reduceIte, Nat.reduceEqDiff, Nat.reduceLT, Nat.reduceLeDiff, Nat.reduceAdd, Nat.reduceSub, Nat.reduceMul, eq_self, ne_eq, and_imp, forall_const, reduceCtorEq, am_w, List.map_cons, List.map_nil, List.sum_cons, List.sum_nil, Value.category, Nat.zero_le, Nat.le_refl]
  have go : ∀ c, c = cno (a_B S.1 b) → ∃ (Q4 : am_H → Prop) (X4 : String → am_H → Prop), am_Ct tt 160 [.ref m, .long (Int64.ofNat c)] h (am_pV Q4 X4) ∧ (∀ h3, Q4 h3 → am_Ev tt 169 28 [some (.ref m), some (.int (Int32.ofNat b)), some (.int (Int32.ofNat c)), some (.int (Int32.ofNat 0))] [] h3 (am_pV (fun h' => h' = ml m ad h (fold (a_B S.1 b))) no_x)) ∧ (∀ E5 h3, X4 E5 h3 → no_x E5 h3) := by
    intro c ec
    subst ec
    refine (x.n (k := cno (a_B S.1 b)) (by omega) (by omega) rfl fun h2 e2 x2 => key (cno (a_B S.1 b)) 0 h2 (by omega) ?_ ?_).2
    · rw [show (R0 0).flatMap (fun c => if c < b_cn (a_B S.1 b) then cform (b_ck (a_B S.1 b) c) (b_cd (a_B S.1 b) c) else cform (Int32.ofNat 0) (Int32.ofNat 0)) = [] from rfl, List.append_nil]
      exact x2
    · rw [e2]; congr 1; exact (List.append_nil _).symm
  refine ⟨fun z => go _ (hcn.2.2.2 z).symm, fun z => go 1 (by unfold cno; rw [if_pos z])⟩
theorem wRow_l {t k : Nat} {g : Nat → Bool} : (wRow t k g).length = 1 + (nb ((k + 7) / 8)).length + (k + 7) / 8 := by
  rw [wRow, List.length_append, List.length_append, bbl_l]
  simp only [List.length_cons, List.length_nil]
  omega
theorem ct_putRow {n t k : Nat} {g : Nat → Bool} (x : MX P h m ad S n) (hk : k ≤ 24) (hn : n + (wRow t k g).length ≤ 9300) (hf : ∀ j, j < k → am_A h (ad 26) j = b01 (g j)) : am_Ct tt 172 [.ref m, .int (Int32.ofNat t), .int (Int32.ofNat k)] h (am_pV (fun h' => h' = ml m ad h (wRow t k g)) no_x) := by
  rw [wRow_l] at hn
  have ne : ad 26 ≠ ad 23 := x.ne (by omega)
  refine vc_172_0 tt _ _ _ h _ _ (x.b (by omega) rfl fun h1 e1 x1 => ⟨by decide, x1.n (k := (k + 7) / 8) (by omega) (by omega) (by rw [qi_add, qi_div (by omega) (by omega), qi_l (by omega)]) fun h2 e2 x2 => ?_⟩)
  refine ⟨x2.1.1.1, _, _, ct_mbits (g := g) x2.1.1 x2.2.2.1 (by omega) hk (fun j hj => by rw [e2, ml_A ne, e1, ml_A ne]; exact hf j hj), fun k' e' => ?_, fun _ _ z => z⟩
  rw [e', e2, e1, ml_app, ml_app]
  rfl
end MP
