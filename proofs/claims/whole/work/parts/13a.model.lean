/-! deps: 12b -/
/-! ===== the reference: its shape, its small helpers ===== -/
/-! 130 yX10_in -/
theorem vc_130_0 (tt : Nat → Nat) (a0 : Int64) (a2 : Int64) (a4 : Int64) (h : am_H) (Q : Int32 → am_H → Prop) (Qx : String → am_H → Prop) (q :
  (((lg_cmp a0 a2) < (Int32.ofNat 0) →
   (((Int32.ofNat 0) = (Int32.ofNat 0) ∨ (Int32.ofNat 0) = (Int32.ofNat 1)) ∧ Q (Int32.ofNat 0) h)) ∧
  (¬ ((lg_cmp a0 a2) < (Int32.ofNat 0)) →
   (((Int32.ofNat 0) < (lg_cmp a0 a4) →
    (((Int32.ofNat 0) = (Int32.ofNat 0) ∨ (Int32.ofNat 0) = (Int32.ofNat 1)) ∧ Q (Int32.ofNat 0) h)) ∧
   (¬ ((Int32.ofNat 0) < (lg_cmp a0 a4)) →
    (((Int32.ofNat 1) = (Int32.ofNat 0) ∨ (Int32.ofNat 1) = (Int32.ofNat 1)) ∧ Q (Int32.ofNat 1) h)))))) :
  am_Ev tt 130 0 [some (.long a0), none, some (.long a2), none, some (.long a4), none] [] h (am_pI Q Qx) := am_vc 13 [] q

/-! 131 yX10_check -/
theorem vc_131_0 (tt : Nat → Nat) (a0 : Nat) (a1 : Int32) (a2 : Int32) (h : am_H) (Q : Int32 → am_H → Prop) (Qx : String → am_H → Prop) (q :
  am_Ev tt 131 5 [some (.ref a0), some (.int a1), some (.int a2), some (.int (-1 : Int32)), some (.int a1), none, none] [] h (am_pI Q Qx)) :
  am_Ev tt 131 0 [some (.ref a0), some (.int a1), some (.int a2), none, none, none, none] [] h (am_pI Q Qx) := am_vc 7 [(5, [true, true, true, true, true, false, false]), (27, [true, true, true, true, true, true, false])] q
theorem vc_131_5 (tt : Nat → Nat) (a0 : Nat) (a1 : Int32) (a2 : Int32) (a3 : Int32) (a4 : Int32) (h : am_H) (Q : Int32 → am_H → Prop) (Qx : String → am_H → Prop) (q :
  (((a1 + a2) ≤ a4 →
   Q (a3 ^^^ (-1 : Int32)) h) ∧
  (¬ ((a1 + a2) ≤ a4) →
   ((am_K h a0 = 23 ∨ am_K h a0 = 24) ∧ vp_in a4 (am_N h a0) ∧
   am_Ev tt 131 27 [some (.ref a0), some (.int a1), some (.int a2), some (.int (a3 ^^^ ((am_A h a0 (a4).toNatClampNeg) &&& (Int32.ofNat 255)))), some (.int a4), some (.int (Int32.ofNat 0)), none] [] h (am_pI Q Qx))))) :
  am_Ev tt 131 5 [some (.ref a0), some (.int a1), some (.int a2), some (.int a3), some (.int a4), none, none] [] h (am_pI Q Qx) := am_vc 18 [(5, [true, true, true, true, true, false, false]), (27, [true, true, true, true, true, true, false])] q
theorem vc_131_27 (tt : Nat → Nat) (a0 : Nat) (a1 : Int32) (a2 : Int32) (a3 : Int32) (a4 : Int32) (a5 : Int32) (h : am_H) (Q : Int32 → am_H → Prop) (Qx : String → am_H → Prop) (q :
  (((Int32.ofNat 8) ≤ a5 →
   am_Ev tt 131 5 [some (.ref a0), some (.int a1), some (.int a2), some (.int a3), some (.int (a4 + (Int32.ofNat 1))), none, none] [] h (am_pI Q Qx)) ∧
  (¬ ((Int32.ofNat 8) ≤ a5) →
   ((¬ (a3 &&& (Int32.ofNat 1)) = (Int32.ofNat 1) →
    (((Int32.ofNat 0) = (Int32.ofNat 0) →
     am_Ev tt 131 27 [some (.ref a0), some (.int a1), some (.int a2), some (.int ((a3).toUInt32 >>> (((Int32.ofNat 1)).toUInt32 &&& Int32.toUInt32 31)).toInt32), some (.int a4), some (.int (a5 + (Int32.ofNat 1))), none] [] h (am_pI Q Qx)) ∧
    (¬ ((Int32.ofNat 0) = (Int32.ofNat 0)) →
     ((0 : Nat) = 0 ∧
     am_Ev tt 131 27 [some (.ref a0), some (.int a1), some (.int a2), some (.int (((a3).toUInt32 >>> (((Int32.ofNat 1)).toUInt32 &&& Int32.toUInt32 31)).toInt32 ^^^ (Int32.ofNat 3988292384))), some (.int a4), some (.int (a5 + (Int32.ofNat 1))), none] [] h (am_pI Q Qx))))) ∧
   (¬ (¬ (a3 &&& (Int32.ofNat 1)) = (Int32.ofNat 1)) →
    (((Int32.ofNat 1) = (Int32.ofNat 0) →
     am_Ev tt 131 27 [some (.ref a0), some (.int a1), some (.int a2), some (.int ((a3).toUInt32 >>> (((Int32.ofNat 1)).toUInt32 &&& Int32.toUInt32 31)).toInt32), some (.int a4), some (.int (a5 + (Int32.ofNat 1))), none] [] h (am_pI Q Qx)) ∧
    (¬ ((Int32.ofNat 1) = (Int32.ofNat 0)) →
     ((0 : Nat) = 0 ∧
     am_Ev tt 131 27 [some (.ref a0), some (.int a1), some (.int a2), some (.int (((a3).toUInt32 >>> (((Int32.ofNat 1)).toUInt32 &&& Int32.toUInt32 31)).toInt32 ^^^ (Int32.ofNat 3988292384))), some (.int a4), some (.int (a5 + (Int32.ofNat 1))), none] [] h (am_pI Q Qx))))))))) :
  am_Ev tt 131 27 [some (.ref a0), some (.int a1), some (.int a2), some (.int a3), some (.int a4), some (.int a5), none] [] h (am_pI Q Qx) := am_vc 27 [(5, [true, true, true, true, true, false, false]), (27, [true, true, true, true, true, true, false])] q

/-! 132 yX10_turn -/
theorem vc_132_0 (tt : Nat → Nat) (a0 : Nat) (a1 : Int32) (a2 : Int32) (h : am_H) (Q : am_H → Prop) (Qx : String → am_H → Prop) (q :
  am_Ev tt 132 2 [some (.ref a0), some (.int a1), some (.int a2), some (.int (Int32.ofNat 0)), none] [] h (am_pV Q Qx)) :
  am_Ev tt 132 0 [some (.ref a0), some (.int a1), some (.int a2), none, none] [] h (am_pV Q Qx) := am_vc 5 [(2, [true, true, true, true, false]), (12, [true, true, true, true, true]), (55, [true, true, true, true, false])] q
theorem vc_132_2 (tt : Nat → Nat) (a0 : Nat) (a1 : Int32) (a2 : Int32) (a3 : Int32) (h : am_H) (Q : am_H → Prop) (Qx : String → am_H → Prop) (q :
  ((a1 < (a3 + a2) →
   am_Ev tt 132 55 [some (.ref a0), some (.int a1), some (.int a2), some (.int (Int32.ofNat 0)), none] [] h (am_pV Q Qx)) ∧
  (¬ (a1 < (a3 + a2)) →
   am_Ev tt 132 12 [some (.ref a0), some (.int a1), some (.int a2), some (.int a3), some (.int (Int32.ofNat 0))] [] h (am_pV Q Qx)))) :
  am_Ev tt 132 2 [some (.ref a0), some (.int a1), some (.int a2), some (.int a3), none] [] h (am_pV Q Qx) := am_vc 10 [(2, [true, true, true, true, false]), (12, [true, true, true, true, true]), (55, [true, true, true, true, false])] q
theorem vc_132_12 (tt : Nat → Nat) (a0 : Nat) (a1 : Int32) (a2 : Int32) (a3 : Int32) (a4 : Int32) (h : am_H) (Q : am_H → Prop) (Qx : String → am_H → Prop) (q :
  ((a2 ≤ a4 →
   am_Ev tt 132 2 [some (.ref a0), some (.int a1), some (.int a2), some (.int (a3 + a2)), none] [] h (am_pV Q Qx)) ∧
  (¬ (a2 ≤ a4) →
   (am_K h a0 = 11 ∧ ∃ q1, am_R h 10 22 a0 = some q1 ∧
   (am_K h a0 = 11 ∧ ∃ q2, am_R h 10 21 a0 = some q2 ∧
   ((am_K h q2 = 23 ∨ am_K h q2 = 24) ∧ vp_in (((a3 + a2) - (Int32.ofNat 1)) - a4) (am_N h q2) ∧
   (vp_in (a3 + a4) (am_N h q1) ∧ ∃ w3, ((am_K h q1 = 23 ∧ w3 = ((am_A h q2 ((((a3 + a2) - (Int32.ofNat 1)) - a4)).toNatClampNeg)).toInt8.toInt32) ∨ (am_K h q1 = 24 ∧ w3 = ((am_A h q2 ((((a3 + a2) - (Int32.ofNat 1)) - a4)).toNatClampNeg) &&& 1))) ∧
   am_Ev tt 132 12 [some (.ref a0), some (.int a1), some (.int a2), some (.int a3), some (.int (a4 + (Int32.ofNat 1)))] [] (am_sA h q1 ((a3 + a4)).toNatClampNeg w3) (am_pV Q Qx)))))))) :
  am_Ev tt 132 12 [some (.ref a0), some (.int a1), some (.int a2), some (.int a3), some (.int a4)] [] h (am_pV Q Qx) := am_vc 24 [(2, [true, true, true, true, false]), (12, [true, true, true, true, true]), (55, [true, true, true, true, false])] q
theorem vc_132_55 (tt : Nat → Nat) (a0 : Nat) (a1 : Int32) (a2 : Int32) (a3 : Int32) (h : am_H) (Q : am_H → Prop) (Qx : String → am_H → Prop) (q :
  (¬ a2 = (Int32.ofNat 0) ∧
  (((a1 - (a1 - a1 / a2 * a2)) ≤ a3 →
   Q h) ∧
  (¬ ((a1 - (a1 - a1 / a2 * a2)) ≤ a3) →
   (am_K h a0 = 11 ∧ ∃ q1, am_R h 10 21 a0 = some q1 ∧
   (am_K h a0 = 11 ∧ ∃ q2, am_R h 10 22 a0 = some q2 ∧
   ((am_K h q2 = 23 ∨ am_K h q2 = 24) ∧ vp_in a3 (am_N h q2) ∧
   (vp_in a3 (am_N h q1) ∧ ∃ w3, ((am_K h q1 = 23 ∧ w3 = ((am_A h q2 (a3).toNatClampNeg)).toInt8.toInt32) ∨ (am_K h q1 = 24 ∧ w3 = ((am_A h q2 (a3).toNatClampNeg) &&& 1))) ∧
   am_Ev tt 132 55 [some (.ref a0), some (.int a1), some (.int a2), some (.int (a3 + (Int32.ofNat 1))), none] [] (am_sA h q1 (a3).toNatClampNeg w3) (am_pV Q Qx))))))))) :
  am_Ev tt 132 55 [some (.ref a0), some (.int a1), some (.int a2), some (.int a3), none] [] h (am_pV Q Qx) := am_vc 20 [(2, [true, true, true, true, false]), (12, [true, true, true, true, true]), (55, [true, true, true, true, false])] q

/-! 133 yX10_code -/
theorem vc_133_0 (tt : Nat → Nat) (a0 : Nat) (a1 : Int32) (a2 : Int32) (a3 : Int32) (a4 : Int32) (h : am_H) (Q : am_H → Prop) (Qx : String → am_H → Prop) (q :
  ((¬ a1 = (Int32.ofNat 2) →
   ((¬ a1 = (Int32.ofNat 3) →
    ((¬ a1 = (Int32.ofNat 1) →
     ((¬ a1 = (Int32.ofNat 1) →
      Q h) ∧
     (¬ (¬ a1 = (Int32.ofNat 1)) →
      am_Ev tt 133 91 [some (.ref a0), none, some (.int a2), none, none, some (.int (a3 - (Int32.ofNat 1)))] [] h (am_pV Q Qx)))) ∧
    (¬ (¬ a1 = (Int32.ofNat 1)) →
     ((a4 = (Int32.ofNat 0) →
      ((¬ a1 = (Int32.ofNat 1) →
       Q h) ∧
      (¬ (¬ a1 = (Int32.ofNat 1)) →
       am_Ev tt 133 91 [some (.ref a0), none, some (.int a2), none, none, some (.int (a3 - (Int32.ofNat 1)))] [] h (am_pV Q Qx)))) ∧
     (¬ (a4 = (Int32.ofNat 0)) →
      am_Ev tt 133 41 [some (.ref a0), none, some (.int a2), some (.int a3), none, some (.int a2)] [] h (am_pV Q Qx)))))) ∧
   (¬ (¬ a1 = (Int32.ofNat 3)) →
    (am_K h a0 = 11 ∧ ∃ (Q2 : am_H → Prop) (X2 : String → am_H → Prop), am_Ct tt 132 [.ref a0, .int a3, .int (Int32.ofNat 4)] h (am_pV Q2 X2) ∧ (∀ h1, Q2 h1 →
     Q h1) ∧ (∀ E3 h1, X2 E3 h1 → Qx E3 h1))))) ∧
  (¬ (¬ a1 = (Int32.ofNat 2)) →
   (am_K h a0 = 11 ∧ ∃ (Q5 : am_H → Prop) (X5 : String → am_H → Prop), am_Ct tt 132 [.ref a0, .int a3, .int (Int32.ofNat 2)] h (am_pV Q5 X5) ∧ (∀ h4, Q5 h4 →
    Q h4) ∧ (∀ E6 h4, X5 E6 h4 → Qx E6 h4))))) :
  am_Ev tt 133 0 [some (.ref a0), some (.int a1), some (.int a2), some (.int a3), some (.int a4), none] [] h (am_pV Q Qx) := am_vc 21 [(41, [true, false, true, true, false, true]), (91, [true, false, true, false, false, true])] q
theorem vc_133_41 (tt : Nat → Nat) (a0 : Nat) (a2 : Int32) (a3 : Int32) (a5 : Int32) (h : am_H) (Q : am_H → Prop) (Qx : String → am_H → Prop) (q :
  ((a3 ≤ a5 →
   Q h) ∧
  (¬ (a3 ≤ a5) →
   (am_K h a0 = 11 ∧ ∃ q1, am_R h 10 21 a0 = some q1 ∧
   (am_K h a0 = 11 ∧ ∃ q2, am_R h 10 21 a0 = some q2 ∧
   ((am_K h q2 = 23 ∨ am_K h q2 = 24) ∧ vp_in a5 (am_N h q2) ∧
   (am_K h a0 = 11 ∧ ∃ q3, am_R h 10 21 a0 = some q3 ∧
   ((am_K h q3 = 23 ∨ am_K h q3 = 24) ∧ vp_in (a5 - a2) (am_N h q3) ∧
   (vp_in a5 (am_N h q1) ∧ ∃ w4, ((am_K h q1 = 23 ∧ w4 = ((((am_A h q2 (a5).toNatClampNeg) + (am_A h q3 ((a5 - a2)).toNatClampNeg))).toInt8.toInt32).toInt8.toInt32) ∨ (am_K h q1 = 24 ∧ w4 = ((((am_A h q2 (a5).toNatClampNeg) + (am_A h q3 ((a5 - a2)).toNatClampNeg))).toInt8.toInt32 &&& 1))) ∧
   am_Ev tt 133 41 [some (.ref a0), none, some (.int a2), some (.int a3), none, some (.int (a5 + (Int32.ofNat 1)))] [] (am_sA h q1 (a5).toNatClampNeg w4) (am_pV Q Qx)))))))))) :
  am_Ev tt 133 41 [some (.ref a0), none, some (.int a2), some (.int a3), none, some (.int a5)] [] h (am_pV Q Qx) := am_vc 24 [(41, [true, false, true, true, false, true]), (91, [true, false, true, false, false, true])] q
theorem vc_133_91 (tt : Nat → Nat) (a0 : Nat) (a2 : Int32) (a5 : Int32) (h : am_H) (Q : am_H → Prop) (Qx : String → am_H → Prop) (q :
  ((a5 < a2 →
   Q h) ∧
  (¬ (a5 < a2) →
   (am_K h a0 = 11 ∧ ∃ q1, am_R h 10 21 a0 = some q1 ∧
   (am_K h a0 = 11 ∧ ∃ q2, am_R h 10 21 a0 = some q2 ∧
   ((am_K h q2 = 23 ∨ am_K h q2 = 24) ∧ vp_in a5 (am_N h q2) ∧
   (am_K h a0 = 11 ∧ ∃ q3, am_R h 10 21 a0 = some q3 ∧
   ((am_K h q3 = 23 ∨ am_K h q3 = 24) ∧ vp_in (a5 - a2) (am_N h q3) ∧
   (vp_in a5 (am_N h q1) ∧ ∃ w4, ((am_K h q1 = 23 ∧ w4 = ((((am_A h q2 (a5).toNatClampNeg) - (am_A h q3 ((a5 - a2)).toNatClampNeg))).toInt8.toInt32).toInt8.toInt32) ∨ (am_K h q1 = 24 ∧ w4 = ((((am_A h q2 (a5).toNatClampNeg) - (am_A h q3 ((a5 - a2)).toNatClampNeg))).toInt8.toInt32 &&& 1))) ∧
   am_Ev tt 133 91 [some (.ref a0), none, some (.int a2), none, none, some (.int (a5 + (-1 : Int32)))] [] (am_sA h q1 (a5).toNatClampNeg w4) (am_pV Q Qx)))))))))) :
  am_Ev tt 133 91 [some (.ref a0), none, some (.int a2), none, none, some (.int a5)] [] h (am_pV Q Qx) := am_vc 24 [(41, [true, false, true, true, false, true]), (91, [true, false, true, false, false, true])] q

/-! 153 yX10_little -/
theorem vc_153_0 (tt : Nat → Nat) (a0 : Nat) (a1 : Int32) (a2 : Int32) (h : am_H) (Q : Int64 → am_H → Prop) (Qx : String → am_H → Prop) (q :
  am_Ev tt 153 7 [some (.ref a0), some (.int a1), none, some (.long (Int64.ofNat 0)), none, some (.int (a2 - (Int32.ofNat 1)))] [] h (am_pL Q Qx)) :
  am_Ev tt 153 0 [some (.ref a0), some (.int a1), some (.int a2), none, none, none] [] h (am_pL Q Qx) := am_vc 9 [(7, [true, true, false, true, false, true])] q
theorem vc_153_7 (tt : Nat → Nat) (a0 : Nat) (a1 : Int32) (a3 : Int64) (a5 : Int32) (h : am_H) (Q : Int64 → am_H → Prop) (Qx : String → am_H → Prop) (q :
  ((a5 < (Int32.ofNat 0) →
   Q a3 h) ∧
  (¬ (a5 < (Int32.ofNat 0)) →
   (am_K h a0 = 11 ∧ ∃ q1, am_R h 10 18 a0 = some q1 ∧
   ((am_K h q1 = 23 ∨ am_K h q1 = 24) ∧ vp_in (a1 + a5) (am_N h q1) ∧
   am_Ev tt 153 7 [some (.ref a0), some (.int a1), none, some (.long ((a3 <<< (((Int32.ofNat 8)).toInt64 &&& 63)) ||| (((am_A h q1 ((a1 + a5)).toNatClampNeg) &&& (Int32.ofNat 255))).toInt64)), none, some (.int (a5 + (-1 : Int32)))] [] h (am_pL Q Qx)))))) :
  am_Ev tt 153 7 [some (.ref a0), some (.int a1), none, some (.long a3), none, some (.int a5)] [] h (am_pL Q Qx) := am_vc 21 [(7, [true, true, false, true, false, true])] q

/-! 154 yX10_putLittle -/
theorem vc_154_0 (tt : Nat → Nat) (a0 : Nat) (a1 : Int32) (a2 : Int64) (a4 : Int32) (h : am_H) (Q : am_H → Prop) (Qx : String → am_H → Prop) (q :
  am_Ev tt 154 3 [some (.ref a0), some (.int a1), some (.long a2), none, some (.int a4), some (.int (Int32.ofNat 0))] [] h (am_pV Q Qx)) :
  am_Ev tt 154 0 [some (.ref a0), some (.int a1), some (.long a2), none, some (.int a4), none] [] h (am_pV Q Qx) := am_vc 5 [(3, [true, true, true, false, true, true])] q
theorem vc_154_3 (tt : Nat → Nat) (a0 : Nat) (a1 : Int32) (a2 : Int64) (a4 : Int32) (a5 : Int32) (h : am_H) (Q : am_H → Prop) (Qx : String → am_H → Prop) (q :
  ((a4 ≤ a5 →
   Q h) ∧
  (¬ (a4 ≤ a5) →
   (am_K h a0 = 11 ∧ ∃ q1, am_R h 10 18 a0 = some q1 ∧
   (vp_in (a1 + a5) (am_N h q1) ∧ ∃ w2, ((am_K h q1 = 23 ∧ w2 = ((((a2 >>> ((((Int32.ofNat 8) * a5)).toInt64 &&& 63))).toInt32).toInt8.toInt32).toInt8.toInt32) ∨ (am_K h q1 = 24 ∧ w2 = ((((a2 >>> ((((Int32.ofNat 8) * a5)).toInt64 &&& 63))).toInt32).toInt8.toInt32 &&& 1))) ∧
   am_Ev tt 154 3 [some (.ref a0), some (.int a1), some (.long a2), none, some (.int a4), some (.int (a5 + (Int32.ofNat 1)))] [] (am_sA h q1 ((a1 + a5)).toNatClampNeg w2) (am_pV Q Qx)))))) :
  am_Ev tt 154 3 [some (.ref a0), some (.int a1), some (.long a2), none, some (.int a4), some (.int a5)] [] h (am_pV Q Qx) := am_vc 21 [(3, [true, true, true, false, true, true])] q

/-- kinds and lengths of the reference's rows, by field (0: no row) -/
def mkl : List (Nat × Nat) := [(0, 0), (0, 0), (21, 24), (21, 24), (21, 480), (24, 24), (22, 24), (24, 24), (21, 24), (21, 24), (23, 57600), (21, 24), (24, 24), (24, 24), (21, 6), (21, 18), (21, 18), (24, 6), (23, 5000), (0, 0), (0, 0), (23, 2880), (23, 2880), (23, 9300), (0, 0), (21, 24), (24, 24), (0, 0), (0, 0), (0, 0), (0, 0), (21, 6), (21, 6), (21, 6), (24, 6), (21, 18), (21, 18), (21, 6), (21, 24), (21, 24), (22, 24), (0, 0), (24, 24), (24, 24), (24, 24), (21, 24), (21, 480), (24, 24), (22, 24), (24, 24), (21, 24), (0, 0), (21, 3), (21, 3), (21, 12), (21, 3), (21, 3), (21, 3), (21, 3), (21, 6), (21, 6), (0, 0), (0, 0)]
/-- the reference m, its rows ad -/
def md_s (h : am_H) (m : Nat) (ad : Nat → Nat) : Prop := am_K h m = 11 ∧ (∀ k, k < 63 → ((mkl.getD k (0, 0)).1 = 0 ∨ (am_R h 10 k m = some (ad k) ∧ am_K h (ad k) = (mkl.getD k (0, 0)).1 ∧ am_N h (ad k) = (mkl.getD k (0, 0)).2))) ∧ (∀ k l, ad k = ad l → k = l)
theorem md_r {h : am_H} {m : Nat} {ad : Nat → Nat} (s : md_s h m ad) {k a b : Nat} (hk : k < 63) (e : mkl.getD k (0, 0) = (a, b)) (ha : a ≠ 0) : am_R h 10 k m = some (ad k) ∧ am_K h (ad k) = a ∧ am_N h (ad k) = b := by
  have := s.2.1 k hk
  rw [e] at this
  exact this.resolve_left ha
theorem md_f {h : am_H} {m : Nat} {ad : Nat → Nat} (s : md_s h m ad) : (am_R h 10 2 m = some (ad 2) ∧ am_K h (ad 2) = 21 ∧ am_N h (ad 2) = 24) ∧ (am_R h 10 3 m = some (ad 3) ∧ am_K h (ad 3) = 21 ∧ am_N h (ad 3) = 24) ∧ (am_R h 10 4 m = some (ad 4) ∧ am_K h (ad 4) = 21 ∧ am_N h (ad 4) = 480) ∧ (am_R h 10 5 m = some (ad 5) ∧ am_K h (ad 5) = 24 ∧ am_N h (ad 5) = 24) ∧ (am_R h 10 6 m = some (ad 6) ∧ am_K h (ad 6) = 22 ∧ am_N h (ad 6) = 24) ∧ (am_R h 10 7 m = some (ad 7) ∧ am_K h (ad 7) = 24 ∧ am_N h (ad 7) = 24) ∧ (am_R h 10 8 m = some (ad 8) ∧ am_K h (ad 8) = 21 ∧ am_N h (ad 8) = 24) ∧ (am_R h 10 9 m = some (ad 9) ∧ am_K h (ad 9) = 21 ∧ am_N h (ad 9) = 24) ∧ (am_R h 10 10 m = some (ad 10) ∧ am_K h (ad 10) = 23 ∧ am_N h (ad 10) = 57600) ∧ (am_R h 10 11 m = some (ad 11) ∧ am_K h (ad 11) = 21 ∧ am_N h (ad 11) = 24) ∧ (am_R h 10 12 m = some (ad 12) ∧ am_K h (ad 12) = 24 ∧ am_N h (ad 12) = 24) ∧ (am_R h 10 13 m = some (ad 13) ∧ am_K h (ad 13) = 24 ∧ am_N h (ad 13) = 24) ∧ (am_R h 10 14 m = some (ad 14) ∧ am_K h (ad 14) = 21 ∧ am_N h (ad 14) = 6) ∧ (am_R h 10 15 m = some (ad 15) ∧ am_K h (ad 15) = 21 ∧ am_N h (ad 15) = 18) ∧ (am_R h 10 16 m = some (ad 16) ∧ am_K h (ad 16) = 21 ∧ am_N h (ad 16) = 18) ∧ (am_R h 10 17 m = some (ad 17) ∧ am_K h (ad 17) = 24 ∧ am_N h (ad 17) = 6) ∧ (am_R h 10 18 m = some (ad 18) ∧ am_K h (ad 18) = 23 ∧ am_N h (ad 18) = 5000) ∧ (am_R h 10 21 m = some (ad 21) ∧ am_K h (ad 21) = 23 ∧ am_N h (ad 21) = 2880) ∧ (am_R h 10 22 m = some (ad 22) ∧ am_K h (ad 22) = 23 ∧ am_N h (ad 22) = 2880) ∧ (am_R h 10 23 m = some (ad 23) ∧ am_K h (ad 23) = 23 ∧ am_N h (ad 23) = 9300) ∧ (am_R h 10 25 m = some (ad 25) ∧ am_K h (ad 25) = 21 ∧ am_N h (ad 25) = 24) ∧ (am_R h 10 26 m = some (ad 26) ∧ am_K h (ad 26) = 24 ∧ am_N h (ad 26) = 24) ∧ (am_R h 10 31 m = some (ad 31) ∧ am_K h (ad 31) = 21 ∧ am_N h (ad 31) = 6) ∧ (am_R h 10 32 m = some (ad 32) ∧ am_K h (ad 32) = 21 ∧ am_N h (ad 32) = 6) ∧ (am_R h 10 33 m = some (ad 33) ∧ am_K h (ad 33) = 21 ∧ am_N h (ad 33) = 6) ∧ (am_R h 10 34 m = some (ad 34) ∧ am_K h (ad 34) = 24 ∧ am_N h (ad 34) = 6) ∧ (am_R h 10 35 m = some (ad 35) ∧ am_K h (ad 35) = 21 ∧ am_N h (ad 35) = 18) ∧ (am_R h 10 36 m = some (ad 36) ∧ am_K h (ad 36) = 21 ∧ am_N h (ad 36) = 18) ∧ (am_R h 10 37 m = some (ad 37) ∧ am_K h (ad 37) = 21 ∧ am_N h (ad 37) = 6) ∧ (am_R h 10 38 m = some (ad 38) ∧ am_K h (ad 38) = 21 ∧ am_N h (ad 38) = 24) ∧ (am_R h 10 39 m = some (ad 39) ∧ am_K h (ad 39) = 21 ∧ am_N h (ad 39) = 24) ∧ (am_R h 10 40 m = some (ad 40) ∧ am_K h (ad 40) = 22 ∧ am_N h (ad 40) = 24) ∧ (am_R h 10 42 m = some (ad 42) ∧ am_K h (ad 42) = 24 ∧ am_N h (ad 42) = 24) ∧ (am_R h 10 43 m = some (ad 43) ∧ am_K h (ad 43) = 24 ∧ am_N h (ad 43) = 24) ∧ (am_R h 10 44 m = some (ad 44) ∧ am_K h (ad 44) = 24 ∧ am_N h (ad 44) = 24) ∧ (am_R h 10 45 m = some (ad 45) ∧ am_K h (ad 45) = 21 ∧ am_N h (ad 45) = 24) ∧ (am_R h 10 46 m = some (ad 46) ∧ am_K h (ad 46) = 21 ∧ am_N h (ad 46) = 480) ∧ (am_R h 10 47 m = some (ad 47) ∧ am_K h (ad 47) = 24 ∧ am_N h (ad 47) = 24) ∧ (am_R h 10 48 m = some (ad 48) ∧ am_K h (ad 48) = 22 ∧ am_N h (ad 48) = 24) ∧ (am_R h 10 49 m = some (ad 49) ∧ am_K h (ad 49) = 24 ∧ am_N h (ad 49) = 24) ∧ (am_R h 10 50 m = some (ad 50) ∧ am_K h (ad 50) = 21 ∧ am_N h (ad 50) = 24) ∧ (am_R h 10 52 m = some (ad 52) ∧ am_K h (ad 52) = 21 ∧ am_N h (ad 52) = 3) ∧ (am_R h 10 53 m = some (ad 53) ∧ am_K h (ad 53) = 21 ∧ am_N h (ad 53) = 3) ∧ (am_R h 10 54 m = some (ad 54) ∧ am_K h (ad 54) = 21 ∧ am_N h (ad 54) = 12) ∧ (am_R h 10 55 m = some (ad 55) ∧ am_K h (ad 55) = 21 ∧ am_N h (ad 55) = 3) ∧ (am_R h 10 56 m = some (ad 56) ∧ am_K h (ad 56) = 21 ∧ am_N h (ad 56) = 3) ∧ (am_R h 10 57 m = some (ad 57) ∧ am_K h (ad 57) = 21 ∧ am_N h (ad 57) = 3) ∧ (am_R h 10 58 m = some (ad 58) ∧ am_K h (ad 58) = 21 ∧ am_N h (ad 58) = 3) ∧ (am_R h 10 59 m = some (ad 59) ∧ am_K h (ad 59) = 21 ∧ am_N h (ad 59) = 6) ∧ (am_R h 10 60 m = some (ad 60) ∧ am_K h (ad 60) = 21 ∧ am_N h (ad 60) = 6) :=
  ⟨md_r s (by decide) rfl (by decide), md_r s (by decide) rfl (by decide), md_r s (by decide) rfl (by decide), md_r s (by decide) rfl (by decide), md_r s (by decide) rfl (by decide), md_r s (by decide) rfl (by decide), md_r s (by decide) rfl (by decide), md_r s (by decide) rfl (by decide), md_r s (by decide) rfl (by decide), md_r s (by decide) rfl (by decide), md_r s (by decide) rfl (by decide), md_r s (by decide) rfl (by decide), md_r s (by decide) rfl (by decide), md_r s (by decide) rfl (by decide), md_r s (by decide) rfl (by decide), md_r s (by decide) rfl (by decide), md_r s (by decide) rfl (by decide), md_r s (by decide) rfl (by decide), md_r s (by decide) rfl (by decide), md_r s (by decide) rfl (by decide), md_r s (by decide) rfl (by decide), md_r s (by decide) rfl (by decide), md_r s (by decide) rfl (by decide), md_r s (by decide) rfl (by decide), md_r s (by decide) rfl (by decide), md_r s (by decide) rfl (by decide), md_r s (by decide) rfl (by decide), md_r s (by decide) rfl (by decide), md_r s (by decide) rfl (by decide), md_r s (by decide) rfl (by decide), md_r s (by decide) rfl (by decide), md_r s (by decide) rfl (by decide), md_r s (by decide) rfl (by decide), md_r s (by decide) rfl (by decide), md_r s (by decide) rfl (by decide), md_r s (by decide) rfl (by decide), md_r s (by decide) rfl (by decide), md_r s (by decide) rfl (by decide), md_r s (by decide) rfl (by decide), md_r s (by decide) rfl (by decide), md_r s (by decide) rfl (by decide), md_r s (by decide) rfl (by decide), md_r s (by decide) rfl (by decide), md_r s (by decide) rfl (by decide), md_r s (by decide) rfl (by decide), md_r s (by decide) rfl (by decide), md_r s (by decide) rfl (by decide), md_r s (by decide) rfl (by decide), md_r s (by decide) rfl (by decide), md_r s (by decide) rfl (by decide)⟩
theorem md_i {h : am_H} {m : Nat} {ad : Nat → Nat} (s : md_s h m ad) (k l : Nat) : (ad k = ad l) = (k = l) := propext ⟨s.2.2 k l, fun e => by rw [e]⟩
theorem md_t {h h' : am_H} {m : Nat} {ad : Nat → Nat} (s : md_s h m ad) (hK : am_K h' = am_K h) (hN : am_N h' = am_N h) (hR : am_R h' = am_R h) : md_s h' m ad := by
  unfold md_s
  rw [hK, hN, hR]
  exact s
theorem ct_in {tt : Nat → Nat} {h : am_H} {v lo hi : Int64} : am_Ct tt 130 [.long v, .long lo, .long hi] h (am_pI (fun x h' => h' = h ∧ x = if lo ≤ v ∧ v ≤ hi then Int32.ofNat 1 else Int32.ofNat 0) no_x) := by
  refine vc_130_0 tt v lo hi h _ _ ?_
  simp (disch := omega) only [qi_lt, qi_le, qi_eq, qi_nn, qi_in, qi_add, qi_l, ql_i, ql_lt, ql_le, ql_eq, ql_add, qc_lt, qc_eq, qc_ge, qc_gt, qc_le, true_and, and_true, and_self, true_or, or_true, false_or, or_false, false_and, and_false, not_true_eq_false, not_false_eq_true, Classical.not_not, true_implies, false_implies, implies_true, exists_eq_left, exists_eq_left', Option.some.injEq, reduceIte, Nat.reduceEqDiff, Nat.reduceLT, Nat.reduceLeDiff, Nat.reduceAdd, Nat.reduceSub, Nat.reduceMul, eq_self, ne_eq, and_imp, forall_const, reduceCtorEq, am_w, List.map_cons, List.map_nil, List.sum_cons, List.sum_nil, Value.category, Nat.zero_le, Nat.le_refl]
  grind
theorem ct_check {tt : Nat → Nat} {h : am_H} {r p n : Nat} (hr : am_K h r = 23) (hN : p + n ≤ am_N h r) (hL : am_N h r ≤ 60000) : am_Ct tt 131 [.ref r, .int (Int32.ofNat p), .int (Int32.ofNat n)] h (am_pI (fun x h' => h' = h ∧ x = ck (am_A h r) p n) no_x) := by
  have inner : ∀ (d j i : Nat) (c : Int32) (Q : Int32 → am_H → Prop), d + j = 8 → i ≤ 60000 →
      am_Ev tt 131 5 [some (.ref r), some (.int (Int32.ofNat p)), some (.int (Int32.ofNat n)), some (.int (Nat.repeat ck1 d c)), some (.int (Int32.ofNat (i + 1))), none, none] [] h (am_pI Q no_x) →
      am_Ev tt 131 27 [some (.ref r), some (.int (Int32.ofNat p)), some (.int (Int32.ofNat n)), some (.int c), some (.int (Int32.ofNat i)), some (.int (Int32.ofNat j)), none] [] h (am_pI Q no_x) := by
    intro d
    induction d with
    | zero =>
      intro j i c Q e hi k
      have ej : j = 8 := by omega
      subst ej
      refine vc_131_27 tt r _ _ _ _ _ _ _ _ ?_
      simp (disch := omega) only [qi_lt, qi_le, qi_eq, qi_nn, qi_in, qi_add, qi_l, ql_i, ql_lt, ql_le, ql_eq, ql_add, qc_lt, qc_eq, qc_ge, qc_gt, qc_le, true_and, and_true, and_self, true_or, or_true, false_or, or_false, false_and, and_false, not_true_eq_false, not_false_eq_true, Classical.not_not, true_implies, false_implies, implies_true, exists_eq_left, exists_eq_left', Option.some.injEq, reduceIte, Nat.reduceEqDiff, Nat.reduceLT, Nat.reduceLeDiff, Nat.reduceAdd, Nat.reduceSub, Nat.reduceMul, eq_self, ne_eq, and_imp, forall_const, reduceCtorEq, am_w, List.map_cons, List.map_nil, List.sum_cons, List.sum_nil, Value.category, Nat.zero_le, Nat.le_refl]
      exact k
    | succ d ih =>
      intro j i c Q e hi k
      refine vc_131_27 tt r _ _ _ _ _ _ _ _ ?_
      have er : Nat.repeat ck1 (d + 1) c = Nat.repeat ck1 d (ck1 c) := by
        clear ih k e
        induction d with
        | zero => rfl
        | succ d ih2 => exact congrArg ck1 ih2
      rw [er] at k
      simp (disch := omega) only [qi_lt, qi_le, qi_eq, qi_nn, qi_in, qi_add, qi_l, ql_i, ql_lt, ql_le, ql_eq, ql_add, qc_lt, qc_eq, qc_ge, qc_gt, qc_le, true_and, and_true, and_self, true_or, or_true, false_or, or_false, false_and, and_false, not_true_eq_false, not_false_eq_true, Classical.not_not, true_implies, false_implies, implies_true, exists_eq_left, exists_eq_left', Option.some.injEq, reduceIte, Nat.reduceEqDiff, Nat.reduceLT, Nat.reduceLeDiff, Nat.reduceAdd, Nat.reduceSub, Nat.reduceMul, eq_self, ne_eq, and_imp, forall_const, reduceCtorEq, am_w, List.map_cons, List.map_nil, List.sum_cons, List.sum_nil, Value.category, Nat.zero_le, Nat.le_refl]
      have := ih (j + 1) i (ck1 c) Q (by omega) hi k
      unfold ck1 at this
      refine ⟨fun z => by omega, fun _ => ⟨fun z => by rw [if_neg z] at this; exact this, fun z => by rw [if_pos z] at this; exact this⟩⟩
  have outer : ∀ (d i : Nat) (c : Int32), d + i = p + n →
      am_Ev tt 131 5 [some (.ref r), some (.int (Int32.ofNat p)), some (.int (Int32.ofNat n)), some (.int c), some (.int (Int32.ofNat i)), none, none] [] h (am_pI (fun x h' => h' = h ∧ x = ckr (am_A h r) i d c ^^^ (-1)) no_x) := by
    intro d
    induction d with
    | zero =>
      intro i c e
      refine vc_131_5 tt r _ _ _ _ _ _ _ ?_
      simp (disch := omega) only [qi_lt, qi_le, qi_eq, qi_nn, qi_in, qi_add, qi_l, ql_i, ql_lt, ql_le, ql_eq, ql_add, qc_lt, qc_eq, qc_ge, qc_gt, qc_le, true_and, and_true, and_self, true_or, or_true, false_or, or_false, false_and, and_false, not_true_eq_false, not_false_eq_true, Classical.not_not, true_implies, false_implies, implies_true, exists_eq_left, exists_eq_left', Option.some.injEq, reduceIte, Nat.reduceEqDiff, Nat.reduceLT, Nat.reduceLeDiff, Nat.reduceAdd, Nat.reduceSub, Nat.reduceMul, eq_self, ne_eq, and_imp, forall_const, reduceCtorEq, am_w, List.map_cons, List.map_nil, List.sum_cons, List.sum_nil, Value.category, Nat.zero_le, Nat.le_refl]
      exact ⟨fun _ => rfl, fun z => by omega⟩
    | succ d ih =>
      intro i c e
      refine vc_131_5 tt r _ _ _ _ _ _ _ ?_
      simp (disch := omega) only [hr, qi_lt, qi_le, qi_eq, qi_nn, qi_in, qi_add, qi_l, ql_i, ql_lt, ql_le, ql_eq, ql_add, qc_lt, qc_eq, qc_ge, qc_gt, qc_le, true_and, and_true, and_self, true_or, or_true, false_or, or_false, false_and, and_false, not_true_eq_false, not_false_eq_true, Classical.not_not, true_implies, false_implies, implies_true, exists_eq_left, exists_eq_left', Option.some.injEq, reduceIte, Nat.reduceEqDiff, Nat.reduceLT, Nat.reduceLeDiff, Nat.reduceAdd, Nat.reduceSub, Nat.reduceMul, eq_self, ne_eq, and_imp, forall_const, reduceCtorEq, am_w, List.map_cons, List.map_nil, List.sum_cons, List.sum_nil, Value.category, Nat.zero_le, Nat.le_refl]
      exact ⟨fun z => by omega, fun _ => ⟨by omega, inner 8 0 i _ _ (by omega) (by omega) (ih (i + 1) _ (by omega))⟩⟩
  exact vc_131_0 tt r _ _ h _ _ (outer n p (-1) (by omega))
theorem qi_div {a b : Nat} (ha : a < 2147483648) (hb : b < 2147483648) : Int32.ofNat a / Int32.ofNat b = Int32.ofNat (a / b) := by
  apply Int32.toInt_inj.1
  have h1 : a / b ≤ a := Nat.div_le_self a b
  rw [Int32.toInt_div, Int32.toInt_ofNat_of_lt ha, Int32.toInt_ofNat_of_lt hb, Int32.toInt_ofNat_of_lt (by omega), ← Int.ofNat_tdiv]
  generalize a / b = q at h1 ⊢
  apply Int.bmod_eq_of_le <;> omega
theorem ct_mturn {tt : Nat → Nat} {h : am_H} {m n w : Nat} {ad : Nat → Nat} (s : md_s h m ad) (hn : n ≤ 2880) (hw : w = 2 ∨ w = 4) : am_Ct tt 132 [.ref m, .int (Int32.ofNat n), .int (Int32.ofNat w)] h (am_pV (fun h' => ∃ o, h' = am_cA (am_cA h (ad 22) o) (ad 21) (ctn w n (am_A h (ad 21)))) no_x) := by
  have hnw : w * (n / w) ≤ n ∧ n < w * (n / w) + w := by rcases hw with rfl | rfl <;> omega
  have ne : (ad 21 = ad 22) = False := by rw [md_i s]; decide
  have ne' : (ad 22 = ad 21) = False := by rw [md_i s]; decide
  -- copy back
  have back : ∀ (d i : Nat) (o : Nat → Int32), d + i = w * (n / w) → (∀ j, j < w * (n / w) → o j = ctn w n (am_A h (ad 21)) j) →
      am_Ev tt 132 55 [some (.ref m), some (.int (Int32.ofNat n)), some (.int (Int32.ofNat w)), some (.int (Int32.ofNat i)), none] [] (am_cA (am_cA h (ad 22) o) (ad 21) (fun j => if j < i then ctn w n (am_A h (ad 21)) j else am_A h (ad 21) j)) (am_pV (fun h' => ∃ o, h' = am_cA (am_cA h (ad 22) o) (ad 21) (ctn w n (am_A h (ad 21)))) no_x) := by
    have ed : Int32.ofNat n - (Int32.ofNat n - Int32.ofNat n / Int32.ofNat w * Int32.ofNat w) = Int32.ofNat (w * (n / w)) := by
      rw [qi_div (by omega) (by omega), qi_mul, Nat.mul_comm (n / w) w, qi_sub (by omega), qi_sub (by omega)]
      congr 1; omega
    intro d
    induction d with
    | zero =>
      intro i o e ho
      have ei : i = w * (n / w) := by omega
      subst ei
      refine vc_132_55 tt m _ _ _ _ _ _ ?_
      rw [ed]
      simp (disch := omega) only [qi_lt, qi_le, qi_eq, qi_nn, qi_in, qi_add, qi_l, ql_i, ql_lt, ql_le, ql_eq, ql_add, qc_lt, qc_eq, qc_ge, qc_gt, qc_le, true_and, and_true, and_self, true_or, or_true, false_or, or_false, false_and, and_false, not_true_eq_false, not_false_eq_true, Classical.not_not, true_implies, false_implies, implies_true, exists_eq_left, exists_eq_left', Option.some.injEq, reduceIte, Nat.reduceEqDiff, Nat.reduceLT, Nat.reduceLeDiff, Nat.reduceAdd, Nat.reduceSub, Nat.reduceMul, eq_self, ne_eq, and_imp, forall_const, reduceCtorEq, am_w, List.map_cons, List.map_nil, List.sum_cons, List.sum_nil, Value.category, Nat.zero_le, Nat.le_refl]
      refine ⟨by omega, o, ?_⟩
      congr 1
      funext j
      split
      · rfl
      · rw [ctn, if_neg (by omega)]
    | succ d ih =>
      intro i o e ho
      refine vc_132_55 tt m _ _ _ _ _ _ ?_
      rw [ed]
      simp (disch := omega) only [s.1, md_f s, ne, ne', cA_sA, am_hs, qi_lt, qi_le, qi_eq, qi_nn, qi_in, qi_add, qi_l, ql_i, ql_lt, ql_le, ql_eq, ql_add, qc_lt, qc_eq, qc_ge, qc_gt, qc_le, true_and, and_true, and_self, true_or, or_true, false_or, or_false, false_and, and_false, not_true_eq_false, not_false_eq_true, Classical.not_not, true_implies, false_implies, implies_true, exists_eq_left, exists_eq_left', Option.some.injEq, reduceIte, Nat.reduceEqDiff, Nat.reduceLT, Nat.reduceLeDiff, Nat.reduceAdd, Nat.reduceSub, Nat.reduceMul, eq_self, ne_eq, and_imp, forall_const, reduceCtorEq, am_w, List.map_cons, List.map_nil, List.sum_cons, List.sum_nil, Value.category, Nat.zero_le, Nat.le_refl]
      refine ⟨by omega, fun z => by omega, fun _ => ⟨by omega, by omega, ?_⟩⟩
      have := ih (i + 1) o (by omega) ho
      have ef : va_up (fun j => if j < i then ctn w n (am_A h (ad 21)) j else am_A h (ad 21) j) i (o i).toInt8.toInt32 = (fun j => if j < i + 1 then ctn w n (am_A h (ad 21)) j else am_A h (ad 21) j) := by
        funext j
        simp only [va_up]
        by_cases e2 : j = i
        · subst e2
          rw [if_pos rfl, if_pos (by omega), ho j (by omega), ctn, if_pos (by omega), by8, q8_8]
        · rw [if_neg e2]
          by_cases e3 : j < i
          · rw [if_pos e3, if_pos (by omega)]
          · rw [if_neg e3, if_neg (by omega)]
      rw [ef]
      exact this
  have inner : ∀ (d i q : Nat) (o : Nat → Int32), d + i = w → w * q + w ≤ n → (∀ j, j < w * q + i → o j = ctn w n (am_A h (ad 21)) j) →
      (∀ o', (∀ j, j < w * (q + 1) → o' j = ctn w n (am_A h (ad 21)) j) → am_Ev tt 132 2 [some (.ref m), some (.int (Int32.ofNat n)), some (.int (Int32.ofNat w)), some (.int (Int32.ofNat (w * q + w))), none] [] (am_cA h (ad 22) o') (am_pV (fun h' => ∃ o, h' = am_cA (am_cA h (ad 22) o) (ad 21) (ctn w n (am_A h (ad 21)))) no_x)) →
      am_Ev tt 132 12 [some (.ref m), some (.int (Int32.ofNat n)), some (.int (Int32.ofNat w)), some (.int (Int32.ofNat (w * q))), some (.int (Int32.ofNat i))] [] (am_cA h (ad 22) o) (am_pV (fun h' => ∃ o, h' = am_cA (am_cA h (ad 22) o) (ad 21) (ctn w n (am_A h (ad 21)))) no_x) := by
    intro d
    induction d with
    | zero =>
      intro i q o e hq ho k
      have ei : i = w := by omega
      subst ei
      refine vc_132_12 tt m _ _ _ _ _ _ _ ?_
      simp (disch := omega) only [qi_lt, qi_le, qi_eq, qi_nn, qi_in, qi_add, qi_l, ql_i, ql_lt, ql_le, ql_eq, ql_add, qc_lt, qc_eq, qc_ge, qc_gt, qc_le, true_and, and_true, and_self, true_or, or_true, false_or, or_false, false_and, and_false, not_true_eq_false, not_false_eq_true, Classical.not_not, true_implies, false_implies, implies_true, exists_eq_left, exists_eq_left', Option.some.injEq, reduceIte, Nat.reduceEqDiff, Nat.reduceLT, Nat.reduceLeDiff, Nat.reduceAdd, Nat.reduceSub, Nat.reduceMul, eq_self, ne_eq, and_imp, forall_const, reduceCtorEq, am_w, List.map_cons, List.map_nil, List.sum_cons, List.sum_nil, Value.category, Nat.zero_le, Nat.le_refl]
      exact k o (fun j hj => ho j (by rw [Nat.mul_add] at hj; omega))
    | succ d ih =>
      intro i q o e hq ho k
      refine vc_132_12 tt m _ _ _ _ _ _ _ ?_
      simp (disch := omega) only [s.1, md_f s, ne, ne', cA_sA, qi_sub, am_hs, qi_lt, qi_le, qi_eq, qi_nn, qi_in, qi_add, qi_l, ql_i, ql_lt, ql_le, ql_eq, ql_add, qc_lt, qc_eq, qc_ge, qc_gt, qc_le, true_and, and_true, and_self, true_or, or_true, false_or, or_false, false_and, and_false, not_true_eq_false, not_false_eq_true, Classical.not_not, true_implies, false_implies, implies_true, exists_eq_left, exists_eq_left', Option.some.injEq, reduceIte, Nat.reduceEqDiff, Nat.reduceLT, Nat.reduceLeDiff, Nat.reduceAdd, Nat.reduceSub, Nat.reduceMul, eq_self, ne_eq, and_imp, forall_const, reduceCtorEq, am_w, List.map_cons, List.map_nil, List.sum_cons, List.sum_nil, Value.category, Nat.zero_le, Nat.le_refl]
      refine ⟨fun z => by omega, fun _ => ⟨by omega, by omega, ih (i + 1) q _ (by omega) hq (fun j hj => ?_) k⟩⟩
      simp only [va_up]
      by_cases e2 : j = w * q + i
      · rw [if_pos e2, ctn]
        have hdm : j / w = q ∧ j % w = i ∧ j < w * (n / w) := by
          subst e2
          rcases hw with rfl | rfl <;> omega
        rw [if_pos hdm.2.2, hdm.1, hdm.2.1, by8]
        congr 3
        omega
      · rw [if_neg e2]
        exact ho j (by omega)
  have outer : ∀ (d q : Nat) (o : Nat → Int32), d + q = n / w → (∀ j, j < w * q → o j = ctn w n (am_A h (ad 21)) j) →
      am_Ev tt 132 2 [some (.ref m), some (.int (Int32.ofNat n)), some (.int (Int32.ofNat w)), some (.int (Int32.ofNat (w * q))), none] [] (am_cA h (ad 22) o) (am_pV (fun h' => ∃ o, h' = am_cA (am_cA h (ad 22) o) (ad 21) (ctn w n (am_A h (ad 21)))) no_x) := by
    intro d
    induction d with
    | zero =>
      intro q o e ho
      have eq' : q = n / w := by omega
      subst eq'
      refine vc_132_2 tt m _ _ _ _ _ _ ?_
      simp (disch := omega) only [qi_lt, qi_le, qi_eq, qi_nn, qi_in, qi_add, qi_l, ql_i, ql_lt, ql_le, ql_eq, ql_add, qc_lt, qc_eq, qc_ge, qc_gt, qc_le, true_and, and_true, and_self, true_or, or_true, false_or, or_false, false_and, and_false, not_true_eq_false, not_false_eq_true, Classical.not_not, true_implies, false_implies, implies_true, exists_eq_left, exists_eq_left', Option.some.injEq, reduceIte, Nat.reduceEqDiff, Nat.reduceLT, Nat.reduceLeDiff, Nat.reduceAdd, Nat.reduceSub, Nat.reduceMul, eq_self, ne_eq, and_imp, forall_const, reduceCtorEq, am_w, List.map_cons, List.map_nil, List.sum_cons, List.sum_nil, Value.category, Nat.zero_le, Nat.le_refl]
      refine ⟨fun _ => ?_, fun z => by omega⟩
      have := back (w * (n / w)) 0 o (by omega) ho
      have e0 : am_cA (am_cA h (ad 22) o) (ad 21) (fun j => if j < 0 then ctn w n (am_A h (ad 21)) j else am_A h (ad 21) j) = am_cA h (ad 22) o := by
        have : (fun j => if j < 0 then ctn w n (am_A h (ad 21)) j else am_A h (ad 21) j) = am_A (am_cA h (ad 22) o) (ad 21) := by
          funext j
          simp only [am_hs, ne, reduceIte]
          rw [if_neg (by omega)]
        rw [this, cA_id]
      rw [e0] at this
      exact this
    | succ d ih =>
      intro q o e ho
      have hq : w * q + w ≤ w * (n / w) := by
        have : w * (q + 1) ≤ w * (n / w) := Nat.mul_le_mul_left _ (by omega)
        rw [Nat.mul_add, Nat.mul_one] at this
        exact this
      refine vc_132_2 tt m _ _ _ _ _ _ ?_
      simp (disch := omega) only [qi_lt, qi_le, qi_eq, qi_nn, qi_in, qi_add, qi_l, ql_i, ql_lt, ql_le, ql_eq, ql_add, qc_lt, qc_eq, qc_ge, qc_gt, qc_le, true_and, and_true, and_self, true_or, or_true, false_or, or_false, false_and, and_false, not_true_eq_false, not_false_eq_true, Classical.not_not, true_implies, false_implies, implies_true, exists_eq_left, exists_eq_left', Option.some.injEq, reduceIte, Nat.reduceEqDiff, Nat.reduceLT, Nat.reduceLeDiff, Nat.reduceAdd, Nat.reduceSub, Nat.reduceMul, eq_self, ne_eq, and_imp, forall_const, reduceCtorEq, am_w, List.map_cons, List.map_nil, List.sum_cons, List.sum_nil, Value.category, Nat.zero_le, Nat.le_refl]
      refine ⟨fun z => by omega, fun _ => inner w 0 q o (by omega) (by omega) ho (fun o' ho' => ?_)⟩
      rw [show w * q + w = w * (q + 1) by rw [Nat.mul_add]; omega]
      exact ih (q + 1) o' (by omega) ho'
  have h0 := outer (n / w) 0 (am_A h (ad 22)) (by omega) (fun j hj => by omega)
  rw [cA_id] at h0
  exact vc_132_0 tt m _ _ h _ _ h0
theorem ct_code {tt : Nat → Nat} {h : am_H} {m n d : Nat} {k b : Int32} {ad : Nat → Nat} (s : md_s h m ad) (hn : n ≤ 2880) (hd : k = Int32.ofNat 1 → 1 ≤ d ∧ d ≤ 256) (hb : b = Int32.ofNat 0 ∨ b = Int32.ofNat 1) : am_Ct tt 133 [.ref m, .int k, .int (Int32.ofNat d), .int (Int32.ofNat n), .int b] h (am_pV (fun h' => ∃ o, h' = am_cA (am_cA h (ad 22) o) (ad 21) (if b = Int32.ofNat 0 then cop k d n (am_A h (ad 21)) else cou k d n (am_A h (ad 21)))) no_x) := by
  have ne : (ad 21 = ad 22) = False := by rw [md_i s]; decide
  have same : ∃ o, h = am_cA (am_cA h (ad 22) o) (ad 21) (am_A h (ad 21)) := ⟨am_A h (ad 22), by rw [cA_id, cA_id]⟩
  -- forth
  have forth : ∀ (e i : Nat) (Q : am_H → Prop), i = d + e → i ≤ n → 1 ≤ d → Q (am_cA h (ad 21) (cdd d n (am_A h (ad 21)))) →
      am_Ev tt 133 91 [some (.ref m), none, some (.int (Int32.ofNat d)), none, none, some (.int (Int32.ofNat (i - 1)))] [] (am_cA h (ad 21) (fun j => if i ≤ j ∧ j < n then by8 (am_A h (ad 21) j - am_A h (ad 21) (j - d)) else am_A h (ad 21) j)) (am_pV Q no_x) := by
    intro e
    induction e with
    | zero =>
      intro i Q e1 e2 e3 k
      refine vc_133_91 tt m _ _ _ _ _ ?_
      simp (disch := omega) only [qi_lt, qi_le, qi_eq, qi_nn, qi_in, qi_add, qi_l, ql_i, ql_lt, ql_le, ql_eq, ql_add, qc_lt, qc_eq, qc_ge, qc_gt, qc_le, true_and, and_true, and_self, true_or, or_true, false_or, or_false, false_and, and_false, not_true_eq_false, not_false_eq_true, Classical.not_not, true_implies, false_implies, implies_true, exists_eq_left, exists_eq_left', Option.some.injEq, reduceIte, Nat.reduceEqDiff, Nat.reduceLT, Nat.reduceLeDiff, Nat.reduceAdd, Nat.reduceSub, Nat.reduceMul, eq_self, ne_eq, and_imp, forall_const, reduceCtorEq, am_w, List.map_cons, List.map_nil, List.sum_cons, List.sum_nil, Value.category, Nat.zero_le, Nat.le_refl]
      refine ⟨fun _ => ?_, fun z => by omega⟩
      have ef : (fun j => if i ≤ j ∧ j < n then by8 (am_A h (ad 21) j - am_A h (ad 21) (j - d)) else am_A h (ad 21) j) = cdd d n (am_A h (ad 21)) := by
        funext j; simp only [cdd, e1, Nat.add_zero]
      rw [ef]
      exact k
    | succ e ih =>
      intro i Q e1 e2 e3 k
      refine vc_133_91 tt m _ _ _ _ _ ?_
      simp (disch := omega) only [s.1, md_f s, qi_sub, qi_dec, cA_sA, q8_8, am_hs, qi_lt, qi_le, qi_eq, qi_nn, qi_in, qi_add, qi_l, ql_i, ql_lt, ql_le, ql_eq, ql_add, qc_lt, qc_eq, qc_ge, qc_gt, qc_le, true_and, and_true, and_self, true_or, or_true, false_or, or_false, false_and, and_false, not_true_eq_false, not_false_eq_true, Classical.not_not, true_implies, false_implies, implies_true, exists_eq_left, exists_eq_left', Option.some.injEq, reduceIte, Nat.reduceEqDiff, Nat.reduceLT, Nat.reduceLeDiff, Nat.reduceAdd, Nat.reduceSub, Nat.reduceMul, eq_self, ne_eq, and_imp, forall_const, reduceCtorEq, am_w, List.map_cons, List.map_nil, List.sum_cons, List.sum_nil, Value.category, Nat.zero_le, Nat.le_refl]
      refine ⟨fun z => by omega, fun _ => ⟨by omega, by omega, by omega, ?_⟩⟩
      have := ih (i - 1) Q (by omega) (by omega) e3 k
      have ef : va_up (fun j => if i ≤ j ∧ j < n then by8 (am_A h (ad 21) j - am_A h (ad 21) (j - d)) else am_A h (ad 21) j) (i - 1) (((if i ≤ i - 1 ∧ i - 1 < n then by8 (am_A h (ad 21) (i - 1) - am_A h (ad 21) (i - 1 - d)) else am_A h (ad 21) (i - 1)) - (if i ≤ i - 1 - d ∧ i - 1 - d < n then by8 (am_A h (ad 21) (i - 1 - d) - am_A h (ad 21) (i - 1 - d - d)) else am_A h (ad 21) (i - 1 - d))).toInt8.toInt32) = (fun j => if i - 1 ≤ j ∧ j < n then by8 (am_A h (ad 21) j - am_A h (ad 21) (j - d)) else am_A h (ad 21) j) := by
        funext j
        simp only [va_up]
        rw [if_neg (show ¬ (i ≤ i - 1 ∧ i - 1 < n) by omega), if_neg (show ¬ (i ≤ i - 1 - d ∧ i - 1 - d < n) by omega)]
        by_cases e2 : j = i - 1
        · subst e2; rw [if_pos rfl, if_pos (by omega)]; rfl
        · rw [if_neg e2]
          by_cases e3 : i ≤ j ∧ j < n
          · rw [if_pos e3, if_pos (by omega)]
          · rw [if_neg e3, if_neg (by omega)]
      rw [ef]
      exact this
  have back : ∀ (e i : Nat) (Q : am_H → Prop), e + i = n → d ≤ i → 1 ≤ d → Q (am_cA h (ad 21) (cud d n (am_A h (ad 21)))) →
      am_Ev tt 133 41 [some (.ref m), none, some (.int (Int32.ofNat d)), some (.int (Int32.ofNat n)), none, some (.int (Int32.ofNat i))] [] (am_cA h (ad 21) (fun j => if j < i then cud d n (am_A h (ad 21)) j else am_A h (ad 21) j)) (am_pV Q no_x) := by
    intro e
    induction e with
    | zero =>
      intro i Q e1 e2 e3 k
      refine vc_133_41 tt m _ _ _ _ _ _ ?_
      simp (disch := omega) only [qi_lt, qi_le, qi_eq, qi_nn, qi_in, qi_add, qi_l, ql_i, ql_lt, ql_le, ql_eq, ql_add, qc_lt, qc_eq, qc_ge, qc_gt, qc_le, true_and, and_true, and_self, true_or, or_true, false_or, or_false, false_and, and_false, not_true_eq_false, not_false_eq_true, Classical.not_not, true_implies, false_implies, implies_true, exists_eq_left, exists_eq_left', Option.some.injEq, reduceIte, Nat.reduceEqDiff, Nat.reduceLT, Nat.reduceLeDiff, Nat.reduceAdd, Nat.reduceSub, Nat.reduceMul, eq_self, ne_eq, and_imp, forall_const, reduceCtorEq, am_w, List.map_cons, List.map_nil, List.sum_cons, List.sum_nil, Value.category, Nat.zero_le, Nat.le_refl]
      refine ⟨fun _ => ?_, fun z => by omega⟩
      have ef : (fun j => if j < i then cud d n (am_A h (ad 21)) j else am_A h (ad 21) j) = cud d n (am_A h (ad 21)) := by
        funext j
        split
        · rfl
        · rw [cud_n (by omega)]
      rw [ef]
      exact k
    | succ e ih =>
      intro i Q e1 e2 e3 k
      refine vc_133_41 tt m _ _ _ _ _ _ ?_
      simp (disch := omega) only [s.1, md_f s, qi_sub, qi_dec, cA_sA, q8_8, am_hs, qi_lt, qi_le, qi_eq, qi_nn, qi_in, qi_add, qi_l, ql_i, ql_lt, ql_le, ql_eq, ql_add, qc_lt, qc_eq, qc_ge, qc_gt, qc_le, true_and, and_true, and_self, true_or, or_true, false_or, or_false, false_and, and_false, not_true_eq_false, not_false_eq_true, Classical.not_not, true_implies, false_implies, implies_true, exists_eq_left, exists_eq_left', Option.some.injEq, reduceIte, Nat.reduceEqDiff, Nat.reduceLT, Nat.reduceLeDiff, Nat.reduceAdd, Nat.reduceSub, Nat.reduceMul, eq_self, ne_eq, and_imp, forall_const, reduceCtorEq, am_w, List.map_cons, List.map_nil, List.sum_cons, List.sum_nil, Value.category, Nat.zero_le, Nat.le_refl]
      refine ⟨fun z => by omega, fun _ => ⟨by omega, by omega, by omega, ?_⟩⟩
      have := ih (i + 1) Q (by omega) (by omega) e3 k
      have ef : va_up (fun j => if j < i then cud d n (am_A h (ad 21)) j else am_A h (ad 21) j) i (((if i < i then cud d n (am_A h (ad 21)) i else am_A h (ad 21) i) + (if i - d < i then cud d n (am_A h (ad 21)) (i - d) else am_A h (ad 21) (i - d))).toInt8.toInt32) = (fun j => if j < i + 1 then cud d n (am_A h (ad 21)) j else am_A h (ad 21) j) := by
        funext j
        simp only [va_up]
        rw [if_neg (show ¬ i < i by omega), if_pos (show i - d < i by omega)]
        by_cases e4 : j = i
        · subst e4; rw [if_pos rfl, if_pos (by omega), cud_p (show 0 < d ∧ d ≤ j ∧ j < n by omega)]; rfl
        · rw [if_neg e4]
          by_cases e5 : j < i
          · rw [if_pos e5, if_pos (by omega)]
          · rw [if_neg e5, if_neg (by omega)]
      rw [ef]
      exact this
  refine vc_133_0 tt m _ _ _ _ _ _ _ ?_
  simp (disch := omega) only [s.1, qi_lt, qi_le, qi_eq, qi_nn, qi_in, qi_add, qi_l, ql_i, ql_lt, ql_le, ql_eq, ql_add, qc_lt, qc_eq, qc_ge, qc_gt, qc_le, true_and, and_true, and_self, true_or, or_true, false_or, or_false, false_and, and_false, not_true_eq_false, not_false_eq_true, Classical.not_not, true_implies, false_implies, implies_true, exists_eq_left, exists_eq_left', Option.some.injEq, reduceIte, Nat.reduceEqDiff, Nat.reduceLT, Nat.reduceLeDiff, Nat.reduceAdd, Nat.reduceSub, Nat.reduceMul, eq_self, ne_eq, and_imp, forall_const, reduceCtorEq, am_w, List.map_cons, List.map_nil, List.sum_cons, List.sum_nil, Value.category, Nat.zero_le, Nat.le_refl]
  have lift : ∀ g : Nat → Int32, ∃ o, am_cA h (ad 21) g = am_cA (am_cA h (ad 22) o) (ad 21) g := fun g => ⟨am_A h (ad 22), by rw [cA_id]⟩
  have fg : k = Int32.ofNat 1 → b = Int32.ofNat 0 → am_Ev tt 133 91 [some (.ref m), none, some (.int (Int32.ofNat d)), none, none, some (.int (Int32.ofNat n - Int32.ofNat 1))] [] h (am_pV (fun h' => ∃ o, h' = am_cA (am_cA h (ad 22) o) (ad 21) (if b = Int32.ofNat 0 then cop k d n (am_A h (ad 21)) else cou k d n (am_A h (ad 21)))) no_x) := by
    intro ek eb
    obtain ⟨d1, d2⟩ := hd ek
    rw [if_pos eb, cop, if_pos ek]
    by_cases c : d ≤ n
    · have := forth (n - d) n (fun h' => ∃ o, h' = am_cA (am_cA h (ad 22) o) (ad 21) (cdd d n (am_A h (ad 21)))) (by omega) (by omega) d1 (lift _)
      have e0 : (fun j => if n ≤ j ∧ j < n then by8 (am_A h (ad 21) j - am_A h (ad 21) (j - d)) else am_A h (ad 21) j) = am_A h (ad 21) := by
        funext j; rw [if_neg (by omega)]
      rw [e0, cA_id] at this
      rw [qi_sub (by omega)]
      exact this
    · have e0 : cdd d n (am_A h (ad 21)) = am_A h (ad 21) := by funext j; rw [cdd, if_neg (by omega)]
      rw [e0]
      refine vc_133_91 tt m _ _ _ _ _ ⟨fun _ => same, fun z => ?_⟩
      exfalso
      apply z
      by_cases c0 : n = 0
      · subst c0
        have : (Int32.ofNat 0 - Int32.ofNat 1) < Int32.ofNat 0 := by decide
        rw [Int32.lt_iff_toInt_lt] at this ⊢
        rw [Int32.toInt_ofNat_of_lt (by omega)]
        have e1 : (Int32.ofNat 0).toInt = 0 := rfl
        omega
      · rw [qi_sub (by omega)]
        simp (disch := omega) only [qi_lt, qi_le, qi_eq, qi_nn, qi_in, qi_add, qi_l, ql_i, ql_lt, ql_le, ql_eq, ql_add, qc_lt, qc_eq, qc_ge, qc_gt, qc_le]
        omega
  refine ⟨fun z2 => ⟨fun z3 => ⟨fun z1 => ⟨fun _ => ?_, fun w => absurd w z1⟩, fun z1 => ⟨fun eb => ⟨fun w => absurd z1 w, fun _ => fg z1 eb⟩, fun eb => ?_⟩⟩, fun z3 => ⟨_, _, ct_mturn s hn (Or.inr rfl), fun k' e => ?_, fun _ _ z => z⟩⟩, fun z2 => ⟨_, _, ct_mturn s hn (Or.inl rfl), fun k' e => ?_, fun _ _ z => z⟩⟩
  · obtain ⟨o, eo⟩ := same
    refine ⟨o, ?_⟩
    simp only [cop, cou, if_neg z1, if_neg z2, if_neg z3, ite_self]
    exact eo
  · obtain ⟨d1, d2⟩ := hd z1
    rw [if_neg eb, cou, if_pos z1]
    by_cases c : d ≤ n
    · have := back (n - d) d (fun h' => ∃ o, h' = am_cA (am_cA h (ad 22) o) (ad 21) (cud d n (am_A h (ad 21)))) (by omega) (by omega) d1 (lift _)
      have e0 : (fun j => if j < d then cud d n (am_A h (ad 21)) j else am_A h (ad 21) j) = am_A h (ad 21) := by
        funext j
        split
        · rw [cud_n (by omega)]
        · rfl
      rw [e0, cA_id] at this
      exact this
    · have e0 : cud d n (am_A h (ad 21)) = am_A h (ad 21) := by funext j; rw [cud_n (by omega)]
      rw [e0]
      refine vc_133_41 tt m _ _ _ _ _ _ ?_
      simp (disch := omega) only [qi_lt, qi_le, qi_eq, qi_nn, qi_in, qi_add, qi_l, ql_i, ql_lt, ql_le, ql_eq, ql_add, qc_lt, qc_eq, qc_ge, qc_gt, qc_le, true_and, and_true, and_self, true_or, or_true, false_or, or_false, false_and, and_false, not_true_eq_false, not_false_eq_true, Classical.not_not, true_implies, false_implies, implies_true, exists_eq_left, exists_eq_left', Option.some.injEq, reduceIte, Nat.reduceEqDiff, Nat.reduceLT, Nat.reduceLeDiff, Nat.reduceAdd, Nat.reduceSub, Nat.reduceMul, eq_self, ne_eq, and_imp, forall_const, reduceCtorEq, am_w, List.map_cons, List.map_nil, List.sum_cons, List.sum_nil, Value.category, Nat.zero_le, Nat.le_refl]
      exact ⟨fun _ => same, fun z => by omega⟩
  · obtain ⟨o, eo⟩ := e
    refine ⟨o, ?_⟩
    have z1 : ¬ k = Int32.ofNat 1 := by rw [z3]; decide
    simp only [eo, cop, cou, if_neg z1, if_neg z2, if_pos z3, ite_self]
  · obtain ⟨o, eo⟩ := e
    refine ⟨o, ?_⟩
    have z1 : ¬ k = Int32.ofNat 1 := by rw [z2]; decide
    simp only [eo, cop, cou, if_neg z1, if_pos z2, ite_self]
theorem ct_putLittle {tt : Nat → Nat} {h : am_H} {m p n : Nat} {v : Int64} {ad : Nat → Nat} (s : md_s h m ad) (hp : p + n ≤ 5000) (hn : n ≤ 8) : am_Ct tt 154 [.ref m, .int (Int32.ofNat p), .long v, .int (Int32.ofNat n)] h (am_pV (fun h' => h' = am_cA h (ad 18) (lay (am_A h (ad 18)) p v n)) no_x) := by
  have key : ∀ (d i : Nat), d + i = n →
      am_Ev tt 154 3 [some (.ref m), some (.int (Int32.ofNat p)), some (.long v), none, some (.int (Int32.ofNat n)), some (.int (Int32.ofNat i))] [] (am_cA h (ad 18) (lay (am_A h (ad 18)) p v i)) (am_pV (fun h' => h' = am_cA h (ad 18) (lay (am_A h (ad 18)) p v n)) no_x) := by
    intro d
    induction d with
    | zero =>
      intro i e
      refine vc_154_3 tt m _ _ _ _ _ _ _ ?_
      have : n = i := by omega
      subst this
      simp (disch := omega) only [qi_lt, qi_le, qi_eq, qi_nn, qi_in, qi_add, qi_l, ql_i, ql_lt, ql_le, ql_eq, ql_add, qc_lt, qc_eq, qc_ge, qc_gt, qc_le, true_and, and_true, and_self, true_or, or_true, false_or, or_false, false_and, and_false, not_true_eq_false, not_false_eq_true, Classical.not_not, true_implies, false_implies, implies_true, exists_eq_left, exists_eq_left', Option.some.injEq, reduceIte, Nat.reduceEqDiff, Nat.reduceLT, Nat.reduceLeDiff, Nat.reduceAdd, Nat.reduceSub, Nat.reduceMul, eq_self, ne_eq, and_imp, forall_const, reduceCtorEq, am_w, List.map_cons, List.map_nil, List.sum_cons, List.sum_nil, Value.category, Nat.zero_le, Nat.le_refl]
    | succ d ih =>
      intro i e
      refine vc_154_3 tt m _ _ _ _ _ _ _ ?_
      simp (disch := omega) only [s.1, md_f s, qi_mul, am_hs, qi_lt, qi_le, qi_eq, qi_nn, qi_in, qi_add, qi_l, ql_i, ql_lt, ql_le, ql_eq, ql_add, qc_lt, qc_eq, qc_ge, qc_gt, qc_le, true_and, and_true, and_self, true_or, or_true, false_or, or_false, false_and, and_false, not_true_eq_false, not_false_eq_true, Classical.not_not, true_implies, false_implies, implies_true, exists_eq_left, exists_eq_left', Option.some.injEq, reduceIte, Nat.reduceEqDiff, Nat.reduceLT, Nat.reduceLeDiff, Nat.reduceAdd, Nat.reduceSub, Nat.reduceMul, eq_self, ne_eq, and_imp, forall_const, reduceCtorEq, am_w, List.map_cons, List.map_nil, List.sum_cons, List.sum_nil, Value.category, Nat.zero_le, Nat.le_refl]
      refine ⟨fun z => by omega, fun _ => ⟨by omega, ?_⟩⟩
      rw [cA_sA, q8_8, lb_s (by omega), lb_88, lay_s]
      exact ih (i + 1) (by omega)
  refine vc_154_0 tt m _ _ _ h _ _ ?_
  have h0 := key n 0 (by omega)
  have e : lay (am_A h (ad 18)) p v 0 = am_A h (ad 18) := by
    funext j
    rw [lay, if_neg (by omega)]
  rw [e, cA_id] at h0
  exact h0
theorem sl_n {x : Int64} {s : Nat} (h : s < 64) : (x <<< Int64.ofNat s).toBitVec = x.toBitVec <<< s := by
  have e2 : ((Int64.ofNat s).toBitVec.smod 64).toNat = s := by
    have : ∀ s, s < 64 → ((Int64.ofNat s).toBitVec.smod 64).toNat = s := by decide
    exact this s h
  rw [Int64.toBitVec_shiftLeft, BitVec.shiftLeft_eq', e2]
theorem lt_f {f : Nat → Int32} : ∀ (n p : Nat), n + 1 ≤ 8 → lt f p (n + 1) = (lt f (p + 1) n <<< Int64.ofNat 8) ||| ((f p).toInt64 &&& Int64.ofNat 255)
  | 0, p, h => by
    apply Int64.toBitVec_inj.1
    simp only [lt, Int64.toBitVec_or, sl_n (show 8 * 0 < 64 by omega), sl_n (show 8 < 64 by omega)]
    have e : (Int64.ofNat 0).toBitVec = 0#64 := rfl
    rw [e]
    simp
  | n + 1, p, h => by
    have ih := lt_f (f := f) n p (by omega)
    show lt f p (n + 1) ||| (((f (p + (n + 1))).toInt64 &&& Int64.ofNat 255) <<< Int64.ofNat (8 * (n + 1))) = _
    rw [ih]
    show _ = ((lt f (p + 1) n ||| (((f (p + 1 + n)).toInt64 &&& Int64.ofNat 255) <<< Int64.ofNat (8 * n))) <<< Int64.ofNat 8) ||| _
    rw [show p + 1 + n = p + (n + 1) by omega]
    apply Int64.toBitVec_inj.1
    simp only [Int64.toBitVec_or, sl_n (show 8 < 64 by omega), sl_n (show 8 * n < 64 by omega), sl_n (show 8 * (n + 1) < 64 by omega)]
    generalize ((f (p + (n + 1))).toInt64 &&& Int64.ofNat 255).toBitVec = a
    generalize ((f p).toInt64 &&& Int64.ofNat 255).toBitVec = b
    generalize (lt f (p + 1) n).toBitVec = c
    apply BitVec.eq_of_getLsbD_eq
    intro i hi
    simp only [BitVec.getLsbD_or, BitVec.getLsbD_shiftLeft]
    by_cases c1 : i < 8
    · simp [c1, show i < 8 * (n + 1) by omega]
    · by_cases c2 : i < 8 * (n + 1)
      · simp [c1, c2, show i - 8 < 8 * n by omega]
      · simp [c1, c2, hi, show ¬ i - 8 < 8 * n by omega, show i - 8 < 64 by omega, show i - 8 - 8 * n = i - 8 * (n + 1) by omega]
        exact Bool.or_right_comm _ _ _
theorem ct_little {tt : Nat → Nat} {h : am_H} {m p n : Nat} {ad : Nat → Nat} (s : md_s h m ad) (hp : p + n ≤ 5000) (hn : n ≤ 8) : am_Ct tt 153 [.ref m, .int (Int32.ofNat p), .int (Int32.ofNat n)] h (am_pL (fun x h' => h' = h ∧ x = lt (am_A h (ad 18)) p n) no_x) := by
  have key : ∀ (i : Nat), i ≤ n →
      am_Ev tt 153 7 [some (.ref m), some (.int (Int32.ofNat p)), none, some (.long (lt (am_A h (ad 18)) (p + i) (n - i))), none, some (.int (Int32.ofNat i + (-1 : Int32)))] [] h (am_pL (fun x h' => h' = h ∧ x = lt (am_A h (ad 18)) p n) no_x) := by
    intro i
    induction i with
    | zero =>
      intro e
      refine vc_153_7 tt m _ _ _ _ _ _ ?_
      exact ⟨fun _ => ⟨rfl, rfl⟩, fun z => absurd (show Int32.ofNat 0 + (-1 : Int32) < Int32.ofNat 0 by decide) z⟩
    | succ i ih =>
      intro e
      rw [qi_dec (by omega), Nat.add_sub_cancel]
      refine vc_153_7 tt m _ _ _ _ _ _ ?_
      simp (disch := omega) only [s.1, md_f s, qi_mul, am_hs, qi_lt, qi_le, qi_eq, qi_nn, qi_in, qi_add, qi_l, ql_i, ql_lt, ql_le, ql_eq, ql_add, qc_lt, qc_eq, qc_ge, qc_gt, qc_le, true_and, and_true, and_self, true_or, or_true, false_or, or_false, false_and, and_false, not_true_eq_false, not_false_eq_true, Classical.not_not, true_implies, false_implies, implies_true, exists_eq_left, exists_eq_left', Option.some.injEq, reduceIte, Nat.reduceEqDiff, Nat.reduceLT, Nat.reduceLeDiff, Nat.reduceAdd, Nat.reduceSub, Nat.reduceMul, eq_self, ne_eq, and_imp, forall_const, reduceCtorEq, am_w, List.map_cons, List.map_nil, List.sum_cons, List.sum_nil, Value.category, Nat.zero_le, Nat.le_refl]
      refine ⟨fun z => by omega, fun _ => ⟨by omega, ?_⟩⟩
      have := ih (by omega)
      rw [show n - i = (n - (i + 1)) + 1 by omega, lt_f _ _ (by omega)] at this
      rw [show (Int64.ofNat 8 &&& 63) = Int64.ofNat 8 from rfl, lt_b]
      exact this
  have h0 := key n (Nat.le_refl _)
  rw [Nat.sub_self] at h0
  refine vc_153_0 tt m _ _ h _ _ ?_
  rw [show Int32.ofNat n - Int32.ofNat 1 = Int32.ofNat n + (-1 : Int32) from Int32.sub_eq_add_neg _ _]
  exact h0
