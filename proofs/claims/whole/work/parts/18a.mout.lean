/-! deps: 17j -/
/-! ===== the reference writes: bytes, numbers, bits, sums ===== -/
/-! 159 yX10_put_ -/
theorem vc_159_0 (tt : Nat → Nat) (a0 : Nat) (a1 : Int32) (h : am_H) (Q : am_H → Prop) (Qx : String → am_H → Prop) (q :
  (am_K h a0 = 11 ∧ ∃ q1, am_R h 10 23 a0 = some q1 ∧
  (am_K h a0 = 11 ∧
  (vp_in (am_I h 10 24 a0) (am_N h q1) ∧ ∃ w2, ((am_K h q1 = 23 ∧ w2 = ((a1).toInt8.toInt32).toInt8.toInt32) ∨ (am_K h q1 = 24 ∧ w2 = ((a1).toInt8.toInt32 &&& 1))) ∧
  (am_K h a0 = 11 ∧
  (am_K h a0 = 11 ∧
  Q (am_sI (am_sA h q1 ((am_I h 10 24 a0)).toNatClampNeg w2) 10 24 a0 ((am_I h 10 24 a0) + (Int32.ofNat 1))))))))) :
  am_Ev tt 159 0 [some (.ref a0), some (.int a1)] [] h (am_pV Q Qx) := am_vc 16 [] q

/-! 160 yX10_putNumber -/
theorem vc_160_0 (tt : Nat → Nat) (a0 : Nat) (a1 : Int64) (h : am_H) (Q : am_H → Prop) (Qx : String → am_H → Prop) (q :
  am_Ev tt 160 2 [some (.ref a0), some (.long a1), none, some (.int (Int32.ofNat 0)), none, none] [] h (am_pV Q Qx)) :
  am_Ev tt 160 0 [some (.ref a0), some (.long a1), none, none, none, none] [] h (am_pV Q Qx) := am_vc 5 [(2, [true, true, false, true, false, false]), (70, [true, true, false, true, false, true])] q
theorem vc_160_2 (tt : Nat → Nat) (a0 : Nat) (a1 : Int64) (a3 : Int32) (h : am_H) (Q : am_H → Prop) (Qx : String → am_H → Prop) (q :
  (((Int32.ofNat 8) ≤ a3 →
   ((¬ a3 = (Int32.ofNat 8) →
    (am_K h a0 = 11 ∧ ∃ (Q2 : am_H → Prop) (X2 : String → am_H → Prop), am_Ct tt 159 [.ref a0, .int ((((Int32.ofNat 255) <<< (((Int32.ofNat 8) - a3) &&& 31)) &&& (Int32.ofNat 255)) ||| (((a1).toUInt64 >>> ((((Int32.ofNat 8) * a3)).toInt64.toUInt64 &&& Int64.toUInt64 63)).toInt64).toInt32)] h (am_pV Q2 X2) ∧ (∀ h1, Q2 h1 →
     am_Ev tt 160 70 [some (.ref a0), some (.long a1), none, some (.int a3), none, some (.int (Int32.ofNat 0))] [] h1 (am_pV Q Qx)) ∧ (∀ E3 h1, X2 E3 h1 → Qx E3 h1))) ∧
   (¬ (¬ a3 = (Int32.ofNat 8)) →
    (am_K h a0 = 11 ∧ ∃ (Q5 : am_H → Prop) (X5 : String → am_H → Prop), am_Ct tt 159 [.ref a0, .int (Int32.ofNat 255)] h (am_pV Q5 X5) ∧ (∀ h4, Q5 h4 →
     am_Ev tt 160 70 [some (.ref a0), some (.long a1), none, some (.int a3), none, some (.int (Int32.ofNat 0))] [] h4 (am_pV Q Qx)) ∧ (∀ E6 h4, X5 E6 h4 → Qx E6 h4))))) ∧
  (¬ ((Int32.ofNat 8) ≤ a3) →
   (((lg_cmp ((a1).toUInt64 >>> ((((Int32.ofNat 7) * (a3 + (Int32.ofNat 1)))).toInt64.toUInt64 &&& Int64.toUInt64 63)).toInt64 (Int64.ofNat 0)) = (Int32.ofNat 0) →
    ((¬ a3 = (Int32.ofNat 8) →
     (am_K h a0 = 11 ∧ ∃ (Q8 : am_H → Prop) (X8 : String → am_H → Prop), am_Ct tt 159 [.ref a0, .int ((((Int32.ofNat 255) <<< (((Int32.ofNat 8) - a3) &&& 31)) &&& (Int32.ofNat 255)) ||| (((a1).toUInt64 >>> ((((Int32.ofNat 8) * a3)).toInt64.toUInt64 &&& Int64.toUInt64 63)).toInt64).toInt32)] h (am_pV Q8 X8) ∧ (∀ h7, Q8 h7 →
      am_Ev tt 160 70 [some (.ref a0), some (.long a1), none, some (.int a3), none, some (.int (Int32.ofNat 0))] [] h7 (am_pV Q Qx)) ∧ (∀ E9 h7, X8 E9 h7 → Qx E9 h7))) ∧
    (¬ (¬ a3 = (Int32.ofNat 8)) →
     (am_K h a0 = 11 ∧ ∃ (Q11 : am_H → Prop) (X11 : String → am_H → Prop), am_Ct tt 159 [.ref a0, .int (Int32.ofNat 255)] h (am_pV Q11 X11) ∧ (∀ h10, Q11 h10 →
      am_Ev tt 160 70 [some (.ref a0), some (.long a1), none, some (.int a3), none, some (.int (Int32.ofNat 0))] [] h10 (am_pV Q Qx)) ∧ (∀ E12 h10, X11 E12 h10 → Qx E12 h10))))) ∧
   (¬ ((lg_cmp ((a1).toUInt64 >>> ((((Int32.ofNat 7) * (a3 + (Int32.ofNat 1)))).toInt64.toUInt64 &&& Int64.toUInt64 63)).toInt64 (Int64.ofNat 0)) = (Int32.ofNat 0)) →
    am_Ev tt 160 2 [some (.ref a0), some (.long a1), none, some (.int (a3 + (Int32.ofNat 1))), none, none] [] h (am_pV Q Qx)))))) :
  am_Ev tt 160 2 [some (.ref a0), some (.long a1), none, some (.int a3), none, none] [] h (am_pV Q Qx) := am_vc 39 [(2, [true, true, false, true, false, false]), (70, [true, true, false, true, false, true])] q
theorem vc_160_70 (tt : Nat → Nat) (a0 : Nat) (a1 : Int64) (a3 : Int32) (a5 : Int32) (h : am_H) (Q : am_H → Prop) (Qx : String → am_H → Prop) (q :
  ((a3 ≤ a5 →
   Q h) ∧
  (¬ (a3 ≤ a5) →
   (am_K h a0 = 11 ∧ ∃ (Q2 : am_H → Prop) (X2 : String → am_H → Prop), am_Ct tt 159 [.ref a0, .int (((a1).toUInt64 >>> ((((Int32.ofNat 8) * a5)).toInt64.toUInt64 &&& Int64.toUInt64 63)).toInt64).toInt32] h (am_pV Q2 X2) ∧ (∀ h1, Q2 h1 →
    am_Ev tt 160 70 [some (.ref a0), some (.long a1), none, some (.int a3), none, some (.int (a5 + (Int32.ofNat 1)))] [] h1 (am_pV Q Qx)) ∧ (∀ E3 h1, X2 E3 h1 → Qx E3 h1))))) :
  am_Ev tt 160 70 [some (.ref a0), some (.long a1), none, some (.int a3), none, some (.int a5)] [] h (am_pV Q Qx) := am_vc 16 [(2, [true, true, false, true, false, false]), (70, [true, true, false, true, false, true])] q

/-! 161 yX10_putLong -/
theorem vc_161_0 (tt : Nat → Nat) (a0 : Nat) (a1 : Int64) (a3 : Int32) (h : am_H) (Q : am_H → Prop) (Qx : String → am_H → Prop) (q :
  am_Ev tt 161 3 [some (.ref a0), some (.long a1), none, some (.int a3), some (.int (Int32.ofNat 0))] [] h (am_pV Q Qx)) :
  am_Ev tt 161 0 [some (.ref a0), some (.long a1), none, some (.int a3), none] [] h (am_pV Q Qx) := am_vc 5 [(3, [true, true, false, true, true])] q
theorem vc_161_3 (tt : Nat → Nat) (a0 : Nat) (a1 : Int64) (a3 : Int32) (a4 : Int32) (h : am_H) (Q : am_H → Prop) (Qx : String → am_H → Prop) (q :
  ((a3 ≤ a4 →
   Q h) ∧
  (¬ (a3 ≤ a4) →
   (am_K h a0 = 11 ∧ ∃ (Q2 : am_H → Prop) (X2 : String → am_H → Prop), am_Ct tt 159 [.ref a0, .int ((a1 >>> ((((Int32.ofNat 8) * a4)).toInt64 &&& 63))).toInt32] h (am_pV Q2 X2) ∧ (∀ h1, Q2 h1 →
    am_Ev tt 161 3 [some (.ref a0), some (.long a1), none, some (.int a3), some (.int (a4 + (Int32.ofNat 1)))] [] h1 (am_pV Q Qx)) ∧ (∀ E3 h1, X2 E3 h1 → Qx E3 h1))))) :
  am_Ev tt 161 3 [some (.ref a0), some (.long a1), none, some (.int a3), some (.int a4)] [] h (am_pV Q Qx) := am_vc 16 [(3, [true, true, false, true, true])] q

/-! 162 yX10_putBits -/
theorem vc_162_0 (tt : Nat → Nat) (a0 : Nat) (a1 : Int32) (h : am_H) (Q : am_H → Prop) (Qx : String → am_H → Prop) (q :
  am_Ev tt 162 2 [some (.ref a0), some (.int a1), some (.int (Int32.ofNat 0)), none, none] [] h (am_pV Q Qx)) :
  am_Ev tt 162 0 [some (.ref a0), some (.int a1), none, none, none] [] h (am_pV Q Qx) := am_vc 5 [(2, [true, true, true, false, false]), (12, [true, true, true, true, true])] q
theorem vc_162_2 (tt : Nat → Nat) (a0 : Nat) (a1 : Int32) (a2 : Int32) (h : am_H) (Q : am_H → Prop) (Qx : String → am_H → Prop) (q :
  ((a1 ≤ a2 →
   Q h) ∧
  (¬ (a1 ≤ a2) →
   am_Ev tt 162 12 [some (.ref a0), some (.int a1), some (.int a2), some (.int (Int32.ofNat 0)), some (.int (Int32.ofNat 0))] [] h (am_pV Q Qx)))) :
  am_Ev tt 162 2 [some (.ref a0), some (.int a1), some (.int a2), none, none] [] h (am_pV Q Qx) := am_vc 10 [(2, [true, true, true, false, false]), (12, [true, true, true, true, true])] q
theorem vc_162_12 (tt : Nat → Nat) (a0 : Nat) (a1 : Int32) (a2 : Int32) (a3 : Int32) (a4 : Int32) (h : am_H) (Q : am_H → Prop) (Qx : String → am_H → Prop) (q :
  (((Int32.ofNat 8) ≤ a4 →
   (am_K h a0 = 11 ∧ ∃ (Q2 : am_H → Prop) (X2 : String → am_H → Prop), am_Ct tt 159 [.ref a0, .int a3] h (am_pV Q2 X2) ∧ (∀ h1, Q2 h1 →
    am_Ev tt 162 2 [some (.ref a0), some (.int a1), some (.int (a2 + (Int32.ofNat 8))), none, none] [] h1 (am_pV Q Qx)) ∧ (∀ E3 h1, X2 E3 h1 → Qx E3 h1))) ∧
  (¬ ((Int32.ofNat 8) ≤ a4) →
   ((a1 ≤ (a2 + a4) →
    am_Ev tt 162 12 [some (.ref a0), some (.int a1), some (.int a2), some (.int (a3 ||| (Int32.ofNat 0))), some (.int (a4 + (Int32.ofNat 1)))] [] h (am_pV Q Qx)) ∧
   (¬ (a1 ≤ (a2 + a4)) →
    (am_K h a0 = 11 ∧ ∃ q4, am_R h 10 26 a0 = some q4 ∧
    ((am_K h q4 = 23 ∨ am_K h q4 = 24) ∧ vp_in (a2 + a4) (am_N h q4) ∧
    (((am_A h q4 ((a2 + a4)).toNatClampNeg) = (Int32.ofNat 0) →
     am_Ev tt 162 12 [some (.ref a0), some (.int a1), some (.int a2), some (.int (a3 ||| (Int32.ofNat 0))), some (.int (a4 + (Int32.ofNat 1)))] [] h (am_pV Q Qx)) ∧
    (¬ ((am_A h q4 ((a2 + a4)).toNatClampNeg) = (Int32.ofNat 0)) →
     am_Ev tt 162 12 [some (.ref a0), some (.int a1), some (.int a2), some (.int (a3 ||| ((Int32.ofNat 128) >>> (a4 &&& 31)))), some (.int (a4 + (Int32.ofNat 1)))] [] h (am_pV Q Qx)))))))))) :
  am_Ev tt 162 12 [some (.ref a0), some (.int a1), some (.int a2), some (.int a3), some (.int a4)] [] h (am_pV Q Qx) := am_vc 27 [(2, [true, true, true, false, false]), (12, [true, true, true, true, true])] q

/-! 163 yX10_bitsSet -/
theorem vc_163_0 (tt : Nat → Nat) (a0 : Nat) (a1 : Int32) (h : am_H) (Q : Int32 → am_H → Prop) (Qx : String → am_H → Prop) (q :
  am_Ev tt 163 4 [some (.ref a0), some (.int a1), some (.int (Int32.ofNat 0)), some (.int (Int32.ofNat 0))] [] h (am_pI Q Qx)) :
  am_Ev tt 163 0 [some (.ref a0), some (.int a1), none, none] [] h (am_pI Q Qx) := am_vc 7 [(4, [true, true, true, true])] q
theorem vc_163_4 (tt : Nat → Nat) (a0 : Nat) (a1 : Int32) (a2 : Int32) (a3 : Int32) (h : am_H) (Q : Int32 → am_H → Prop) (Qx : String → am_H → Prop) (q :
  ((a1 ≤ a3 →
   Q a2 h) ∧
  (¬ (a1 ≤ a3) →
   (am_K h a0 = 11 ∧ ∃ q1, am_R h 10 26 a0 = some q1 ∧
   ((am_K h q1 = 23 ∨ am_K h q1 = 24) ∧ vp_in a3 (am_N h q1) ∧
   (((am_A h q1 (a3).toNatClampNeg) = (Int32.ofNat 0) →
    am_Ev tt 163 4 [some (.ref a0), some (.int a1), some (.int (a2 + (Int32.ofNat 0))), some (.int (a3 + (Int32.ofNat 1)))] [] h (am_pI Q Qx)) ∧
   (¬ ((am_A h q1 (a3).toNatClampNeg) = (Int32.ofNat 0)) →
    am_Ev tt 163 4 [some (.ref a0), some (.int a1), some (.int (a2 + (Int32.ofNat 1))), some (.int (a3 + (Int32.ofNat 1)))] [] h (am_pI Q Qx)))))))) :
  am_Ev tt 163 4 [some (.ref a0), some (.int a1), some (.int a2), some (.int a3)] [] h (am_pI Q Qx) := am_vc 18 [(4, [true, true, true, true])] q

/-! 164 yX10_filesOf -/
theorem vc_164_0 (tt : Nat → Nat) (a0 : Nat) (a1 : Int32) (h : am_H) (Q : Int32 → am_H → Prop) (Qx : String → am_H → Prop) (q :
  am_Ev tt 164 4 [some (.ref a0), some (.int a1), some (.int (Int32.ofNat 0)), some (.int (Int32.ofNat 0))] [] h (am_pI Q Qx)) :
  am_Ev tt 164 0 [some (.ref a0), some (.int a1), none, none] [] h (am_pI Q Qx) := am_vc 7 [(4, [true, true, true, true])] q
theorem vc_164_4 (tt : Nat → Nat) (a0 : Nat) (a1 : Int32) (a2 : Int32) (a3 : Int32) (h : am_H) (Q : Int32 → am_H → Prop) (Qx : String → am_H → Prop) (q :
  (am_K h a0 = 11 ∧
  (((am_I h 10 1 a0) ≤ a3 →
   Q a2 h) ∧
  (¬ ((am_I h 10 1 a0) ≤ a3) →
   (am_K h a0 = 11 ∧ ∃ q1, am_R h 10 9 a0 = some q1 ∧
   ((am_K h q1 = 21 ∨ am_K h q1 = 31) ∧ vp_in a3 (am_N h q1) ∧
   (((am_A h q1 (a3).toNatClampNeg) ≤ (Int32.ofNat 0) →
    am_Ev tt 164 4 [some (.ref a0), some (.int a1), some (.int (a2 + (Int32.ofNat 0))), some (.int (a3 + (Int32.ofNat 1)))] [] h (am_pI Q Qx)) ∧
   (¬ ((am_A h q1 (a3).toNatClampNeg) ≤ (Int32.ofNat 0)) →
    (am_K h a0 = 11 ∧ ∃ q2, am_R h 10 11 a0 = some q2 ∧
    ((am_K h q2 = 21 ∨ am_K h q2 = 31) ∧ vp_in a3 (am_N h q2) ∧
    ((¬ (am_A h q2 (a3).toNatClampNeg) = a1 →
     am_Ev tt 164 4 [some (.ref a0), some (.int a1), some (.int (a2 + (Int32.ofNat 0))), some (.int (a3 + (Int32.ofNat 1)))] [] h (am_pI Q Qx)) ∧
    (¬ (¬ (am_A h q2 (a3).toNatClampNeg) = a1) →
     am_Ev tt 164 4 [some (.ref a0), some (.int a1), some (.int (a2 + (Int32.ofNat 1))), some (.int (a3 + (Int32.ofNat 1)))] [] h (am_pI Q Qx))))))))))))) :
  am_Ev tt 164 4 [some (.ref a0), some (.int a1), some (.int a2), some (.int a3)] [] h (am_pI Q Qx) := am_vc 25 [(4, [true, true, true, true])] q

/-! 165 yX10_bytesOf -/
theorem vc_165_0 (tt : Nat → Nat) (a0 : Nat) (a1 : Int32) (h : am_H) (Q : Int32 → am_H → Prop) (Qx : String → am_H → Prop) (q :
  am_Ev tt 165 4 [some (.ref a0), some (.int a1), some (.int (Int32.ofNat 0)), some (.int (Int32.ofNat 0))] [] h (am_pI Q Qx)) :
  am_Ev tt 165 0 [some (.ref a0), some (.int a1), none, none] [] h (am_pI Q Qx) := am_vc 7 [(4, [true, true, true, true])] q
theorem vc_165_4 (tt : Nat → Nat) (a0 : Nat) (a1 : Int32) (a2 : Int32) (a3 : Int32) (h : am_H) (Q : Int32 → am_H → Prop) (Qx : String → am_H → Prop) (q :
  (am_K h a0 = 11 ∧
  (((am_I h 10 1 a0) ≤ a3 →
   Q a2 h) ∧
  (¬ ((am_I h 10 1 a0) ≤ a3) →
   (am_K h a0 = 11 ∧ ∃ q1, am_R h 10 11 a0 = some q1 ∧
   ((am_K h q1 = 21 ∨ am_K h q1 = 31) ∧ vp_in a3 (am_N h q1) ∧
   ((¬ (am_A h q1 (a3).toNatClampNeg) = a1 →
    am_Ev tt 165 4 [some (.ref a0), some (.int a1), some (.int (a2 + (Int32.ofNat 0))), some (.int (a3 + (Int32.ofNat 1)))] [] h (am_pI Q Qx)) ∧
   (¬ (¬ (am_A h q1 (a3).toNatClampNeg) = a1) →
    (am_K h a0 = 11 ∧ ∃ q2, am_R h 10 9 a0 = some q2 ∧
    ((am_K h q2 = 21 ∨ am_K h q2 = 31) ∧ vp_in a3 (am_N h q2) ∧
    am_Ev tt 165 4 [some (.ref a0), some (.int a1), some (.int (a2 + (am_A h q2 (a3).toNatClampNeg))), some (.int (a3 + (Int32.ofNat 1)))] [] h (am_pI Q Qx))))))))))) :
  am_Ev tt 165 4 [some (.ref a0), some (.int a1), some (.int a2), some (.int a3)] [] h (am_pI Q Qx) := am_vc 23 [(4, [true, true, true, true])] q

/-! 168 yX10_putCoder -/
theorem vc_168_0 (tt : Nat → Nat) (a0 : Nat) (a1 : Int32) (a2 : Int32) (h : am_H) (Q : am_H → Prop) (Qx : String → am_H → Prop) (q :
  ((¬ a1 = (Int32.ofNat 0) →
   ((¬ a1 = (Int32.ofNat 1) →
    (am_K h a0 = 11 ∧ ∃ (Q2 : am_H → Prop) (X2 : String → am_H → Prop), am_Ct tt 159 [.ref a0, .int (Int32.ofNat 3)] h (am_pV Q2 X2) ∧ (∀ h1, Q2 h1 →
     (am_K h1 a0 = 11 ∧ ∃ (Q4 : am_H → Prop) (X4 : String → am_H → Prop), am_Ct tt 159 [.ref a0, .int (Int32.ofNat 2)] h1 (am_pV Q4 X4) ∧ (∀ h3, Q4 h3 →
      (am_K h3 a0 = 11 ∧ ∃ (Q6 : am_H → Prop) (X6 : String → am_H → Prop), am_Ct tt 159 [.ref a0, .int (Int32.ofNat 3)] h3 (am_pV Q6 X6) ∧ (∀ h5, Q6 h5 →
       ((¬ a1 = (Int32.ofNat 2) →
        (am_K h5 a0 = 11 ∧ ∃ (Q8 : am_H → Prop) (X8 : String → am_H → Prop), am_Ct tt 159 [.ref a0, .int (Int32.ofNat 4)] h5 (am_pV Q8 X8) ∧ (∀ h7, Q8 h7 →
         Q h7) ∧ (∀ E9 h7, X8 E9 h7 → Qx E9 h7))) ∧
       (¬ (¬ a1 = (Int32.ofNat 2)) →
        (am_K h5 a0 = 11 ∧ ∃ (Q11 : am_H → Prop) (X11 : String → am_H → Prop), am_Ct tt 159 [.ref a0, .int (Int32.ofNat 2)] h5 (am_pV Q11 X11) ∧ (∀ h10, Q11 h10 →
         Q h10) ∧ (∀ E12 h10, X11 E12 h10 → Qx E12 h10))))) ∧ (∀ E13 h5, X6 E13 h5 → Qx E13 h5))) ∧ (∀ E14 h3, X4 E14 h3 → Qx E14 h3))) ∧ (∀ E15 h1, X2 E15 h1 → Qx E15 h1))) ∧
   (¬ (¬ a1 = (Int32.ofNat 1)) →
    (am_K h a0 = 11 ∧ ∃ (Q17 : am_H → Prop) (X17 : String → am_H → Prop), am_Ct tt 159 [.ref a0, .int (Int32.ofNat 33)] h (am_pV Q17 X17) ∧ (∀ h16, Q17 h16 →
     (am_K h16 a0 = 11 ∧ ∃ (Q19 : am_H → Prop) (X19 : String → am_H → Prop), am_Ct tt 159 [.ref a0, .int (Int32.ofNat 3)] h16 (am_pV Q19 X19) ∧ (∀ h18, Q19 h18 →
      (am_K h18 a0 = 11 ∧ ∃ (Q21 : am_H → Prop) (X21 : String → am_H → Prop), am_Ct tt 159 [.ref a0, .int (Int32.ofNat 1)] h18 (am_pV Q21 X21) ∧ (∀ h20, Q21 h20 →
       (am_K h20 a0 = 11 ∧ ∃ (Q23 : am_H → Prop) (X23 : String → am_H → Prop), am_Ct tt 159 [.ref a0, .int (a2 - (Int32.ofNat 1))] h20 (am_pV Q23 X23) ∧ (∀ h22, Q23 h22 →
        Q h22) ∧ (∀ E24 h22, X23 E24 h22 → Qx E24 h22))) ∧ (∀ E25 h20, X21 E25 h20 → Qx E25 h20))) ∧ (∀ E26 h18, X19 E26 h18 → Qx E26 h18))) ∧ (∀ E27 h16, X17 E27 h16 → Qx E27 h16))))) ∧
  (¬ (¬ a1 = (Int32.ofNat 0)) →
   (am_K h a0 = 11 ∧ ∃ (Q29 : am_H → Prop) (X29 : String → am_H → Prop), am_Ct tt 159 [.ref a0, .int (Int32.ofNat 1)] h (am_pV Q29 X29) ∧ (∀ h28, Q29 h28 →
    (am_K h28 a0 = 11 ∧ ∃ (Q31 : am_H → Prop) (X31 : String → am_H → Prop), am_Ct tt 159 [.ref a0, .int (Int32.ofNat 0)] h28 (am_pV Q31 X31) ∧ (∀ h30, Q31 h30 →
     Q h30) ∧ (∀ E32 h30, X31 E32 h30 → Qx E32 h30))) ∧ (∀ E33 h28, X29 E33 h28 → Qx E33 h28))))) :
  am_Ev tt 168 0 [some (.ref a0), some (.int a1), some (.int a2)] [] h (am_pV Q Qx) := am_vc 24 [] q

/-! 175 yX10_sign -/
theorem vc_175_0 (tt : Nat → Nat) (a0 : Int32) (h : am_H) (Q : Int32 → am_H → Prop) (Qx : String → am_H → Prop) (q :
  (((a0).toInt < 0 ∨ 6 < (a0).toInt →
   Q (Int32.ofNat 4) h) ∧
  ((a0).toInt = 0 →
   Q (Int32.ofNat 55) h) ∧
  ((a0).toInt = 1 →
   Q (Int32.ofNat 122) h) ∧
  ((a0).toInt = 2 →
   Q (Int32.ofNat 188) h) ∧
  ((a0).toInt = 3 →
   Q (Int32.ofNat 175) h) ∧
  ((a0).toInt = 4 →
   Q (Int32.ofNat 39) h) ∧
  ((a0).toInt = 5 →
   Q (Int32.ofNat 28) h) ∧
  ((a0).toInt = 6 →
   Q (Int32.ofNat 0) h) ∧
  True)) :
  am_Ev tt 175 0 [some (.int a0)] [] h (am_pI Q Qx) := am_vc 6 [] q

/-- one byte more -/
def mb (m : Nat) (ad : Nat → Nat) (h : am_H) (v : Int32) : am_H := am_sI (am_sA h (ad 23) (am_I h 10 24 m).toNatClampNeg (by8 v)) 10 24 m (am_I h 10 24 m + Int32.ofNat 1)
def ml (m : Nat) (ad : Nat → Nat) (h : am_H) (l : List Int32) : am_H := l.foldl (mb m ad) h
theorem ml_nil {m : Nat} {ad : Nat → Nat} {h : am_H} : ml m ad h [] = h := rfl
theorem ml_cons {m : Nat} {ad : Nat → Nat} {h : am_H} {v : Int32} {l : List Int32} : ml m ad h (v :: l) = ml m ad (mb m ad h v) l := rfl
theorem ml_app {m : Nat} {ad : Nat → Nat} {h : am_H} {l l' : List Int32} : ml m ad (ml m ad h l) l' = ml m ad h (l ++ l') := by simp [ml]
theorem mb_8 {m : Nat} {ad : Nat → Nat} {h : am_H} {v w : Int32} (e : v.toInt8 = w.toInt8) : mb m ad h v = mb m ad h w := by unfold mb by8; rw [e]
theorem ml_8 {m : Nat} {ad : Nat → Nat} {h : am_H} {v w : Int32} (e : v.toInt8 = w.toInt8) : ml m ad h [v] = ml m ad h [w] := mb_8 e
theorem ml_fr : (∀ m ad l h, am_K (ml m ad h l) = am_K h) ∧ (∀ m ad l h, am_N (ml m ad h l) = am_N h) ∧ (∀ m ad l h, am_R (ml m ad h l) = am_R h) ∧ (∀ m ad l h, am_C (ml m ad h l) = am_C h) ∧ (∀ m ad l h, am_J (ml m ad h l) = am_J h) ∧ (∀ m ad l h, am_B (ml m ad h l) = am_B h) ∧ (∀ m ad l h, am_U (ml m ad h l) = am_U h) ∧ (∀ m ad l h, am_V (ml m ad h l) = am_V h) := by
  refine ⟨?_, ?_, ?_, ?_, ?_, ?_, ?_, ?_⟩ <;> intro m ad l <;> induction l with
  | nil => intro h; rfl
  | cons v l ih => intro h; rw [ml_cons, ih]; rfl
theorem ml_I {m : Nat} {ad : Nat → Nat} {c k a : Nat} (e : ¬ (c = 10 ∧ k = 24 ∧ a = m)) : ∀ {l : List Int32} {h : am_H}, am_I (ml m ad h l) c k a = am_I h c k a
  | [], _ => rfl
  | v :: l, h => by rw [ml_cons, ml_I e, mb]; simp only [am_hs]; rw [if_neg e]
theorem ml_A {m : Nat} {ad : Nat → Nat} {a : Nat} (e : a ≠ ad 23) : ∀ {l : List Int32} {h : am_H}, am_A (ml m ad h l) a = am_A h a
  | [], _ => rfl
  | v :: l, h => by rw [ml_cons, ml_A e, mb]; funext j; simp only [am_hs]; rw [if_neg (fun z => e z.1)]
theorem ml_p {m : Nat} {ad : Nat → Nat} : ∀ {l : List Int32} {h : am_H} {n : Nat}, am_I h 10 24 m = Int32.ofNat n → am_I (ml m ad h l) 10 24 m = Int32.ofNat (n + l.length)
  | [], _, _, e => e
  | v :: l, h, n, e => by
    rw [ml_cons, List.length_cons, show n + (l.length + 1) = n + 1 + l.length by omega]
    refine ml_p ?_
    unfold mb
    simp only [am_hs, true_and, and_true, and_self, true_or, or_true, false_or, or_false, false_and, and_false, not_true_eq_false, not_false_eq_true, Classical.not_not, true_implies, false_implies, implies_true, exists_eq_left, exists_eq_left', Option.some.injEq, reduceIte, Nat.reduceEqDiff, Nat.reduceLT, Nat.reduceLeDiff, Nat.reduceAdd, Nat.reduceSub, Nat.reduceMul, eq_self, ne_eq, and_imp, forall_const, reduceCtorEq, am_w, List.map_cons, List.map_nil, List.sum_cons, List.sum_nil, Value.category, Nat.zero_le, Nat.le_refl]
    rw [e, qi_add]
theorem ml_o {m : Nat} {ad : Nat → Nat} : ∀ {l : List Int32} {h : am_H} {n : Nat}, am_I h 10 24 m = Int32.ofNat n → n + l.length ≤ 9300 → am_A (ml m ad h l) (ad 23) = apl (am_A h (ad 23)) n l
  | [], h, n, e, hn => by rw [ml_nil, apl_nil]
  | v :: l, h, n, e, hn => by
    rw [List.length_cons] at hn
    rw [ml_cons, ml_o (n := n + 1) (by unfold mb; simp only [am_hs, true_and, and_true, and_self, true_or, or_true, false_or, or_false, false_and, and_false, not_true_eq_false, not_false_eq_true, Classical.not_not, true_implies, false_implies, implies_true, exists_eq_left, exists_eq_left', Option.some.injEq, reduceIte, Nat.reduceEqDiff, Nat.reduceLT, Nat.reduceLeDiff, Nat.reduceAdd, Nat.reduceSub, Nat.reduceMul, eq_self, ne_eq, and_imp, forall_const, reduceCtorEq, am_w, List.map_cons, List.map_nil, List.sum_cons, List.sum_nil, Value.category, Nat.zero_le, Nat.le_refl]; rw [e, qi_add]) (by omega), show v :: l = [v] ++ l from rfl, ← apl_app]
    congr 1
    funext j
    unfold mb apl
    simp only [am_hs, true_and, and_true, and_self, true_or, or_true, false_or, or_false, false_and, and_false, not_true_eq_false, not_false_eq_true, Classical.not_not, true_implies, false_implies, implies_true, exists_eq_left, exists_eq_left', Option.some.injEq, reduceIte, Nat.reduceEqDiff, Nat.reduceLT, Nat.reduceLeDiff, Nat.reduceAdd, Nat.reduceSub, Nat.reduceMul, eq_self, ne_eq, and_imp, forall_const, reduceCtorEq, am_w, List.map_cons, List.map_nil, List.sum_cons, List.sum_nil, Value.category, Nat.zero_le, Nat.le_refl]
    rw [e, qi_nn (by omega)]
    by_cases c : j = n
    · subst c
      rw [if_pos rfl, if_pos (by simp), Nat.sub_self]; rfl
    · rw [if_neg c, if_neg (by simp; omega)]
theorem fm_le {g : Nat → List Int32} {i n : Nat} (h : i < n) : ((R0 i).flatMap g).length + (g i).length ≤ ((R0 n).flatMap g).length := by
  obtain ⟨r, e⟩ := fm_p (g := g) (b := i + 1) (d := n - (i + 1))
  rw [show i + 1 + (n - (i + 1)) = n by omega, fm_s] at e
  rw [e, List.length_append, List.length_append]
  omega
/-- eight bits, laid one by one -/
def orb (g : Nat → Bool) (p : Nat) : Nat → Int32
  | 0 => Int32.ofNat 0
  | i + 1 => orb g p i ||| (if g (p + i) then Int32.ofNat 128 >>> (Int32.ofNat i &&& 31) else Int32.ofNat 0)
theorem or8b : ∀ b0 b1 b2 b3 b4 b5 b6 b7 : Bool, ((((((((Int32.ofNat 0 ||| (if b0 then Int32.ofNat 128 >>> (Int32.ofNat 0 &&& 31) else Int32.ofNat 0)) ||| (if b1 then Int32.ofNat 128 >>> (Int32.ofNat 1 &&& 31) else Int32.ofNat 0)) ||| (if b2 then Int32.ofNat 128 >>> (Int32.ofNat 2 &&& 31) else Int32.ofNat 0)) ||| (if b3 then Int32.ofNat 128 >>> (Int32.ofNat 3 &&& 31) else Int32.ofNat 0)) ||| (if b4 then Int32.ofNat 128 >>> (Int32.ofNat 4 &&& 31) else Int32.ofNat 0)) ||| (if b5 then Int32.ofNat 128 >>> (Int32.ofNat 5 &&& 31) else Int32.ofNat 0)) ||| (if b6 then Int32.ofNat 128 >>> (Int32.ofNat 6 &&& 31) else Int32.ofNat 0)) ||| (if b7 then Int32.ofNat 128 >>> (Int32.ofNat 7 &&& 31) else Int32.ofNat 0)) =
    (Int32.ofNat 2 * (Int32.ofNat 2 * (Int32.ofNat 2 * (Int32.ofNat 2 * (Int32.ofNat 2 * (Int32.ofNat 2 * (Int32.ofNat 2 * (Int32.ofNat 2 * Int32.ofNat 0 + (if b0 then Int32.ofNat 1 else Int32.ofNat 0)) + (if b1 then Int32.ofNat 1 else Int32.ofNat 0)) + (if b2 then Int32.ofNat 1 else Int32.ofNat 0)) + (if b3 then Int32.ofNat 1 else Int32.ofNat 0)) + (if b4 then Int32.ofNat 1 else Int32.ofNat 0)) + (if b5 then Int32.ofNat 1 else Int32.ofNat 0)) + (if b6 then Int32.ofNat 1 else Int32.ofNat 0)) + (if b7 then Int32.ofNat 1 else Int32.ofNat 0)) := by decide +kernel
theorem or8 {g : Nat → Bool} {p : Nat} : orb g p 8 = b8r g (Int32.ofNat 0) 8 p := or8b (g p) (g (p + 1)) (g (p + 2)) (g (p + 3)) (g (p + 4)) (g (p + 5)) (g (p + 6)) (g (p + 7))
/-- the reference, while it writes: n bytes so far -/
def MX (P : Nat → Prop) (h : am_H) (m : Nat) (ad : Nat → Nat) (S : sS) (n : Nat) : Prop := RM P h m ad S ∧ wfS S ∧ am_I h 10 24 m = Int32.ofNat n ∧ (∀ j, j < a_n S.1 → am_A h (ad 25) j = Int32.ofNat (oo S.1 j))
section MO
variable {tt : Nat → Nat} {P : Nat → Prop} {h h' h'' : am_H} {m : Nat} {ad : Nat → Nat} {S : sS}
theorem RM.same (q : RM P h m ad S) (p : mfr h m ad h') (hI : ∀ f, f = 1 ∨ f = 19 ∨ f = 20 → am_I h' 10 f m = am_I h 10 f m) (hA : ∀ k, 2 ≤ k → k ≤ 18 → am_A h' (ad k) = am_A h (ad k)) (hB : am_B h' (ad 6) = am_B h (ad 6)) : RM P h' m ad S := by
  obtain ⟨q1, q2, q3, q4, q5, q6, q7, q8⟩ := q
  refine ⟨p.md q1, by rw [hI 1 (by omega)]; exact q2, fun i hi => ?_, fun b hb => ?_, by rw [hI 19 (by omega)]; exact q5, fun j hj => by rw [hA 18 (by omega) (by omega)]; exact q6 j hj, by rw [hI 20 (by omega)]; exact q7, fun a ha => by rw [p.1]; exact q8 a ha⟩
  · have := q3 i hi
    unfold me_v at this ⊢
    rw [hA 2 (by omega) (by omega), hA 3 (by omega) (by omega), hA 4 (by omega) (by omega), hA 5 (by omega) (by omega), hA 7 (by omega) (by omega), hA 8 (by omega) (by omega), hA 9 (by omega) (by omega), hA 10 (by omega) (by omega), hA 11 (by omega) (by omega), hA 12 (by omega) (by omega), hA 13 (by omega) (by omega), hB]
    exact this
  · have := q4 b hb
    unfold mb_v at this ⊢
    rw [hA 14 (by omega) (by omega), hA 15 (by omega) (by omega), hA 16 (by omega) (by omega), hA 17 (by omega) (by omega)]
    exact this
theorem ml_mfr {l : List Int32} : mfr h m ad (ml m ad h l) := ⟨by simp only [ml_fr], by simp only [ml_fr], by simp only [ml_fr], by simp only [ml_fr], by simp only [ml_fr], by simp only [ml_fr], fun c f a z => ml_I (fun w => z ⟨w.1, w.2.2⟩), fun c f a z => by simp only [ml_fr], fun a z => ml_A (z 23), fun a z => by simp only [ml_fr]⟩
theorem MX.ne {n : Nat} (x : MX P h m ad S n) {k l : Nat} (e : k ≠ l) : ad k ≠ ad l := fun z => e (x.1.1.2.2 _ _ z)
theorem MX.tl {n : Nat} (x : MX P h m ad S n) (l : List Int32) : MX P (ml m ad h l) m ad S (n + l.length) := by
  have ne : ∀ k, k ≠ 23 → am_A (ml m ad h l) (ad k) = am_A h (ad k) := fun k hk => ml_A (x.ne hk)
  exact ⟨x.1.same ml_mfr (fun f hf => ml_I (by omega)) (fun k h1 h2 => ne k (by omega)) (by simp only [ml_fr]), x.2.1, ml_p x.2.2.1, by rw [ne 25 (by omega)]; exact x.2.2.2⟩
/-- rows that nobody shows -/
theorem MX.row {n : Nat} (x : MX P h m ad S n) {k : Nat} (hk : k = 21 ∨ k = 22 ∨ k = 26) (f : Nat → Int32) : MX P (am_cA h (ad k) f) m ad S n := by
  have ne : ∀ i, i ≠ k → am_A (am_cA h (ad k) f) (ad i) = am_A h (ad i) := fun i hi => by simp only [am_hs]; rw [if_neg (x.ne hi)]
  exact ⟨x.1.same mfr.cA (fun f hf => rfl) (fun i h1 h2 => ne i (by omega)) rfl, x.2.1, x.2.2.1, by rw [ne 25 (by omega)]; exact x.2.2.2⟩
/-- a step -/
theorem MX.c {n : Nat} (x : MX P h m ad S n) {y : Nat} {As : List Value} {l : List Int32} (hc : am_Ct tt y As h (am_pV (fun h' => h' = ml m ad h l) no_x)) {G : am_H → Prop} (hG : ∀ h2, h2 = ml m ad h l → MX P h2 m ad S (n + l.length) → G h2) :
    am_K h m = 11 ∧ ∃ (Q3 : am_H → Prop) (X3 : String → am_H → Prop), am_Ct tt y As h (am_pV Q3 X3) ∧ (∀ h2, Q3 h2 → G h2) ∧ (∀ E4 h2, X3 E4 h2 → no_x E4 h2) :=
  ⟨x.1.1.1, _, _, hc, fun k e => hG k e (by rw [e]; exact x.tl l), fun _ _ z => z⟩
theorem ct_mo {n : Nat} (s : md_s h m ad) (e : am_I h 10 24 m = Int32.ofNat n) (hn : n < 9300) {v w : Int32} (ev : v.toInt8 = w.toInt8) : am_Ct tt 159 [.ref m, .int v] h (am_pV (fun h' => h' = ml m ad h [w]) no_x) := by
  refine vc_159_0 tt _ _ h _ _ ?_
  simp (disch := omega) only [s.1, md_f s, e, hn, am_hs, qi_lt, qi_le, qi_eq, qi_nn, qi_in, qi_add, qi_l, ql_i, ql_lt, ql_le, ql_eq, ql_add, qc_lt, qc_eq, qc_ge, qc_gt, qc_le, true_and, and_true, and_self, true_or, or_true, false_or, or_false, false_and, and_false, not_true_eq_false, not_false_eq_true, Classical.not_not, true_implies, false_implies, implies_true, exists_eq_left, exists_eq_left', Option.some.injEq, reduceIte, Nat.reduceEqDiff, Nat.reduceLT, Nat.reduceLeDiff, Nat.reduceAdd, Nat.reduceSub, Nat.reduceMul, eq_self, ne_eq, and_imp, forall_const, reduceCtorEq, am_w, List.map_cons, List.map_nil, List.sum_cons, List.sum_nil, Value.category, Nat.zero_le, Nat.le_refl]
  rw [← ml_8 ev]
  show _ = mb m ad h v
  unfold mb
  rw [e, qi_nn (by omega), qi_add, q8_8]
  rfl
theorem MX.b {n : Nat} (x : MX P h m ad S n) (hn : n < 9300) {v w : Int32} (ev : v.toInt8 = w.toInt8) {G : am_H → Prop} (hG : ∀ h2, h2 = ml m ad h [w] → MX P h2 m ad S (n + 1) → G h2) :
    am_K h m = 11 ∧ ∃ (Q3 : am_H → Prop) (X3 : String → am_H → Prop), am_Ct tt 159 [.ref m, .int v] h (am_pV Q3 X3) ∧ (∀ h2, Q3 h2 → G h2) ∧ (∀ E4 h2, X3 E4 h2 → no_x E4 h2) := x.c (ct_mo x.1.1 x.2.2.1 hn ev) hG
theorem nb_d : ∀ k, k < 128 → ((((Int32.ofNat 255) <<< (((Int32.ofNat 8) - Int32.ofNat 0) &&& 31)) &&& (Int32.ofNat 255)) ||| Int32.ofNat k).toInt8 = (Int32.ofNat k).toInt8 := by decide
theorem nb_e : ∀ k, k < 64 → ((((Int32.ofNat 255) <<< (((Int32.ofNat 8) - Int32.ofNat 1) &&& 31)) &&& (Int32.ofNat 255)) ||| Int32.ofNat k).toInt8 = (Int32.ofNat (128 + k)).toInt8 := by decide
theorem ct_mnum {n k : Nat} (s : md_s h m ad) (e : am_I h 10 24 m = Int32.ofNat n) (hn : n + (nb k).length ≤ 9300) (hk : k < 16384) : am_Ct tt 160 [.ref m, .long (Int64.ofNat k)] h (am_pV (fun h' => h' = ml m ad h (nb k)) no_x) := by
  have s7 : ((Int64.ofNat k).toUInt64 >>> ((Int64.ofNat (7 * 1)).toUInt64 &&& Int64.toUInt64 63)).toInt64 = Int64.ofNat (k >>> 7) := by rw [sh_u7 1 (by omega)]; exact us_n (by omega) (by omega)
  have s14 : ((Int64.ofNat k).toUInt64 >>> ((Int64.ofNat (7 * 2)).toUInt64 &&& Int64.toUInt64 63)).toInt64 = Int64.ofNat (k >>> 14) := by rw [sh_u7 2 (by omega)]; exact us_n (by omega) (by omega)
  have s0 : ((Int64.ofNat k).toUInt64 >>> ((Int64.ofNat (8 * 0)).toUInt64 &&& Int64.toUInt64 63)).toInt64 = Int64.ofNat k := by rw [sh_u8 0 (by omega)]; exact us_n (by omega) (by omega)
  have s8 : ((Int64.ofNat k).toUInt64 >>> ((Int64.ofNat (8 * 1)).toUInt64 &&& Int64.toUInt64 63)).toInt64 = Int64.ofNat (k >>> 8) := by rw [sh_u8 1 (by omega)]; exact us_n (by omega) (by omega)
  have e7 : k >>> 7 = k / 128 := Nat.shiftRight_eq_div_pow k 7
  have e14 : k >>> 14 = k / 16384 := Nat.shiftRight_eq_div_pow k 14
  have e8 : k >>> 8 = k / 256 := Nat.shiftRight_eq_div_pow k 8
  have hK := s.1
  refine vc_160_0 tt m _ h _ _ (vc_160_2 tt m _ _ h _ _ ?_)
  simp (disch := omega) only [hK, qi_mul, qi_lt, qi_le, qi_eq, qi_nn, qi_in, qi_add, qi_l, ql_i, ql_lt, ql_le, ql_eq, ql_add, qc_lt, qc_eq, qc_ge, qc_gt, qc_le, true_and, and_true, and_self, true_or, or_true, false_or, or_false, false_and, and_false, not_true_eq_false, not_false_eq_true, Classical.not_not, true_implies, false_implies, implies_true, exists_eq_left, exists_eq_left', Option.some.injEq, reduceIte, Nat.reduceEqDiff, Nat.reduceLT, Nat.reduceLeDiff, Nat.reduceAdd, Nat.reduceSub, Nat.reduceMul, eq_self, ne_eq, and_imp, forall_const, reduceCtorEq, am_w, List.map_cons, List.map_nil, List.sum_cons, List.sum_nil, Value.category, Nat.zero_le, Nat.le_refl, s7, s0, e7]
  by_cases c : k < 128
  · rw [nb, if_pos c] at hn
    simp only [List.length_cons, List.length_nil] at hn
    refine ⟨fun _ => ⟨_, _, ct_mo s e (by omega) (nb_d k c), fun k1 e1 => ?_, fun _ _ z => z⟩, fun z => by omega⟩
    refine vc_160_70 tt m _ _ _ _ _ _ ?_
    simp (disch := omega) only [qi_lt, qi_le, qi_eq, qi_nn, qi_in, qi_add, qi_l, ql_i, ql_lt, ql_le, ql_eq, ql_add, qc_lt, qc_eq, qc_ge, qc_gt, qc_le, true_and, and_true, and_self, true_or, or_true, false_or, or_false, false_and, and_false, not_true_eq_false, not_false_eq_true, Classical.not_not, true_implies, false_implies, implies_true, exists_eq_left, exists_eq_left', Option.some.injEq, reduceIte, Nat.reduceEqDiff, Nat.reduceLT, Nat.reduceLeDiff, Nat.reduceAdd, Nat.reduceSub, Nat.reduceMul, eq_self, ne_eq, and_imp, forall_const, reduceCtorEq, am_w, List.map_cons, List.map_nil, List.sum_cons, List.sum_nil, Value.category, Nat.zero_le, Nat.le_refl]
    rw [nb, if_pos c]
    exact e1
  · rw [nb, if_neg c] at hn
    simp only [List.length_cons, List.length_nil] at hn
    refine ⟨fun z => by omega, fun _ => vc_160_2 tt m _ _ h _ _ ?_⟩
    simp (disch := omega) only [hK, qi_mul, qi_lt, qi_le, qi_eq, qi_nn, qi_in, qi_add, qi_l, ql_i, ql_lt, ql_le, ql_eq, ql_add, qc_lt, qc_eq, qc_ge, qc_gt, qc_le, true_and, and_true, and_self, true_or, or_true, false_or, or_false, false_and, and_false, not_true_eq_false, not_false_eq_true, Classical.not_not, true_implies, false_implies, implies_true, exists_eq_left, exists_eq_left', Option.some.injEq, reduceIte, Nat.reduceEqDiff, Nat.reduceLT, Nat.reduceLeDiff, Nat.reduceAdd, Nat.reduceSub, Nat.reduceMul, eq_self, ne_eq, and_imp, forall_const, reduceCtorEq, am_w, List.map_cons, List.map_nil, List.sum_cons, List.sum_nil, Value.category, Nat.zero_le, Nat.le_refl, s14, s8, e14, e8]
    refine ⟨fun _ => ⟨_, _, ct_mo s e (by omega) (nb_e (k / 256) (by omega)), fun k1 e1 => ?_, fun _ _ z => z⟩, fun z => by omega⟩
    have s' : md_s k1 m ad := by rw [e1]; exact ml_mfr.md s
    refine vc_160_70 tt m _ _ _ _ _ _ ?_
    simp (disch := omega) only [s'.1, qi_mul, qi_lt, qi_le, qi_eq, qi_nn, qi_in, qi_add, qi_l, ql_i, ql_lt, ql_le, ql_eq, ql_add, qc_lt, qc_eq, qc_ge, qc_gt, qc_le, true_and, and_true, and_self, true_or, or_true, false_or, or_false, false_and, and_false, not_true_eq_false, not_false_eq_true, Classical.not_not, true_implies, false_implies, implies_true, exists_eq_left, exists_eq_left', Option.some.injEq, reduceIte, Nat.reduceEqDiff, Nat.reduceLT, Nat.reduceLeDiff, Nat.reduceAdd, Nat.reduceSub, Nat.reduceMul, eq_self, ne_eq, and_imp, forall_const, reduceCtorEq, am_w, List.map_cons, List.map_nil, List.sum_cons, List.sum_nil, Value.category, Nat.zero_le, Nat.le_refl, s0]
    refine ⟨_, _, ct_mo s' (n := n + 1) (by rw [e1]; exact ml_p e) (by omega) (nb_c k), fun k2 e2 => ?_, fun _ _ z => z⟩
    refine vc_160_70 tt m _ _ _ _ _ _ ?_
    simp (disch := omega) only [qi_lt, qi_le, qi_eq, qi_nn, qi_in, qi_add, qi_l, ql_i, ql_lt, ql_le, ql_eq, ql_add, qc_lt, qc_eq, qc_ge, qc_gt, qc_le, true_and, and_true, and_self, true_or, or_true, false_or, or_false, false_and, and_false, not_true_eq_false, not_false_eq_true, Classical.not_not, true_implies, false_implies, implies_true, exists_eq_left, exists_eq_left', Option.some.injEq, reduceIte, Nat.reduceEqDiff, Nat.reduceLT, Nat.reduceLeDiff, Nat.reduceAdd, Nat.reduceSub, Nat.reduceMul, eq_self, ne_eq, and_imp, forall_const, reduceCtorEq, am_w, List.map_cons, List.map_nil, List.sum_cons, List.sum_nil, Value.category, Nat.zero_le, Nat.le_refl]
    rw [nb, if_neg c, e2, e1, ml_app]
    rfl
theorem MX.n {n : Nat} (x : MX P h m ad S n) {k : Nat} (hn : n + (nb k).length ≤ 9300) (hk : k < 16384) {v : Int64} (hv : v = Int64.ofNat k) {G : am_H → Prop} (hG : ∀ h2, h2 = ml m ad h (nb k) → MX P h2 m ad S (n + (nb k).length) → G h2) :
    am_K h m = 11 ∧ ∃ (Q3 : am_H → Prop) (X3 : String → am_H → Prop), am_Ct tt 160 [.ref m, .long v] h (am_pV Q3 X3) ∧ (∀ h2, Q3 h2 → G h2) ∧ (∀ E4 h2, X3 E4 h2 → no_x E4 h2) := by
  subst hv
  exact x.c (ct_mnum x.1.1 x.2.2.1 hn hk) hG
theorem LB_l {k : Nat} {v : Int64} : (LB k v).length = k := by rw [LB, List.length_map, List.length_range']
theorem ct_mlong {n k : Nat} {v : Int64} (s : md_s h m ad) (e : am_I h 10 24 m = Int32.ofNat n) (hn : n + k ≤ 9300) (hk : k ≤ 8) : am_Ct tt 161 [.ref m, .long v, .int (Int32.ofNat k)] h (am_pV (fun h' => h' = ml m ad h (LB k v)) no_x) := by
  have key : ∀ (d i : Nat) (q : am_H), d + i = k → md_s q m ad → am_I q 10 24 m = Int32.ofNat (n + i) →
      am_Ev tt 161 3 [some (.ref m), some (.long v), none, some (.int (Int32.ofNat k)), some (.int (Int32.ofNat i))] [] q (am_pV (fun h' => h' = ml m ad q ((List.range' i d).map (lb v))) no_x) := by
    intro d
    induction d with
    | zero =>
      intro i q e0 s0 e1
      have : k = i := by omega
      subst this
      refine vc_161_3 tt m _ _ _ _ _ _ ?_
      simp (disch := omega) only [qi_lt, qi_le, qi_eq, qi_nn, qi_in, qi_add, qi_l, ql_i, ql_lt, ql_le, ql_eq, ql_add, qc_lt, qc_eq, qc_ge, qc_gt, qc_le, true_and, and_true, and_self, true_or, or_true, false_or, or_false, false_and, and_false, not_true_eq_false, not_false_eq_true, Classical.not_not, true_implies, false_implies, implies_true, exists_eq_left, exists_eq_left', Option.some.injEq, reduceIte, Nat.reduceEqDiff, Nat.reduceLT, Nat.reduceLeDiff, Nat.reduceAdd, Nat.reduceSub, Nat.reduceMul, eq_self, ne_eq, and_imp, forall_const, reduceCtorEq, am_w, List.map_cons, List.map_nil, List.sum_cons, List.sum_nil, Value.category, Nat.zero_le, Nat.le_refl, List.range', List.map_nil, ml_nil]
    | succ d ih =>
      intro i q e0 s0 e1
      refine vc_161_3 tt m _ _ _ _ _ _ ?_
      simp (disch := omega) only [s0.1, qi_mul, qi_lt, qi_le, qi_eq, qi_nn, qi_in, qi_add, qi_l, ql_i, ql_lt, ql_le, ql_eq, ql_add, qc_lt, qc_eq, qc_ge, qc_gt, qc_le, true_and, and_true, and_self, true_or, or_true, false_or, or_false, false_and, and_false, not_true_eq_false, not_false_eq_true, Classical.not_not, true_implies, false_implies, implies_true, exists_eq_left, exists_eq_left', Option.some.injEq, reduceIte, Nat.reduceEqDiff, Nat.reduceLT, Nat.reduceLeDiff, Nat.reduceAdd, Nat.reduceSub, Nat.reduceMul, eq_self, ne_eq, and_imp, forall_const, reduceCtorEq, am_w, List.map_cons, List.map_nil, List.sum_cons, List.sum_nil, Value.category, Nat.zero_le, Nat.le_refl]
      refine ⟨fun z => by omega, fun _ => ⟨_, _, ct_mo s0 e1 (by omega) (lb_s (by omega)), fun k1 e2 => ?_, fun _ _ z => z⟩⟩
      have := ih (i + 1) k1 (by omega) (by rw [e2]; exact ml_mfr.md s0) (by rw [e2]; exact ml_p e1)
      rw [e2, ml_app] at this
      rw [e2, List.range'_succ, List.map_cons]
      exact this
  exact vc_161_0 tt m _ _ h _ _ (key k 0 h (by omega) s e)
theorem MX.l {n : Nat} (x : MX P h m ad S n) {k : Nat} {v : Int64} (hn : n + k ≤ 9300) (hk : k ≤ 8) {G : am_H → Prop} (hG : ∀ h2, h2 = ml m ad h (LB k v) → MX P h2 m ad S (n + k) → G h2) :
    am_K h m = 11 ∧ ∃ (Q3 : am_H → Prop) (X3 : String → am_H → Prop), am_Ct tt 161 [.ref m, .long v, .int (Int32.ofNat k)] h (am_pV Q3 X3) ∧ (∀ h2, Q3 h2 → G h2) ∧ (∀ E4 h2, X3 E4 h2 → no_x E4 h2) := by
  refine x.c (ct_mlong x.1.1 x.2.2.1 hn hk) ?_
  rw [LB_l]
  exact hG
theorem bbl_l {g : Nat → Bool} {n : Nat} : (bbl g n).length = (n + 7) / 8 := by rw [bbl, List.length_map, List.length_range']
theorem ct_mbits {n k : Nat} {g : Nat → Bool} (s : md_s h m ad) (e : am_I h 10 24 m = Int32.ofNat n) (hn : n + (k + 7) / 8 ≤ 9300) (hk : k ≤ 24) (hf : ∀ j, j < k → am_A h (ad 26) j = b01 (g j)) : am_Ct tt 162 [.ref m, .int (Int32.ofNat k)] h (am_pV (fun h' => h' = ml m ad h (bbl (bgb k g) k)) no_x) := by
  have ne : ad 26 ≠ ad 23 := fun z => by have := s.2.2 _ _ z; omega
  have key2 : ∀ (d i p c : Nat) (q : am_H) (Q : am_H → Prop), d + i = 8 → p < k → md_s q m ad → am_I q 10 24 m = Int32.ofNat c → c < 9300 → am_A q (ad 26) = am_A h (ad 26) →
      am_Ev tt 162 2 [some (.ref m), some (.int (Int32.ofNat k)), some (.int (Int32.ofNat (p + 8))), none, none] [] (ml m ad q [b8r (bgb k g) (Int32.ofNat 0) 8 p]) (am_pV Q no_x) →
      am_Ev tt 162 12 [some (.ref m), some (.int (Int32.ofNat k)), some (.int (Int32.ofNat p)), some (.int (orb (bgb k g) p i)), some (.int (Int32.ofNat i))] [] q (am_pV Q no_x) := by
    intro d
    induction d with
    | zero =>
      intro i p c q Q e0 hp s0 e1 hc ea z
      have : i = 8 := by omega
      subst this
      refine vc_162_12 tt m _ _ _ _ _ _ _ ?_
      simp (disch := omega) only [s0.1, qi_lt, qi_le, qi_eq, qi_nn, qi_in, qi_add, qi_l, ql_i, ql_lt, ql_le, ql_eq, ql_add, qc_lt, qc_eq, qc_ge, qc_gt, qc_le, true_and, and_true, and_self, true_or, or_true, false_or, or_false, false_and, and_false, not_true_eq_false, not_false_eq_true, Classical.not_not, true_implies, false_implies, implies_true, exists_eq_left, exists_eq_left', Option.some.injEq, reduceIte, Nat.reduceEqDiff, Nat.reduceLT, Nat.reduceLeDiff, Nat.reduceAdd, Nat.reduceSub, Nat.reduceMul, eq_self, ne_eq, and_imp, forall_const, reduceCtorEq, am_w, List.map_cons, List.map_nil, List.sum_cons, List.sum_nil, Value.category, Nat.zero_le, Nat.le_refl]
      rw [or8]
      exact ⟨_, _, ct_mo s0 e1 hc rfl, fun k1 e2 => by rw [e2]; exact z, fun _ _ z => z⟩
    | succ d ih =>
      intro i p c q Q e0 hp s0 e1 hc ea z
      have nx := ih (i + 1) p c q Q (by omega) hp s0 e1 hc ea z
      unfold orb at nx
      refine vc_162_12 tt m _ _ _ _ _ _ _ ?_
      simp (disch := omega) only [s0.1, md_f s0, ea, am_hs, qi_lt, qi_le, qi_eq, qi_nn, qi_in, qi_add, qi_l, ql_i, ql_lt, ql_le, ql_eq, ql_add, qc_lt, qc_eq, qc_ge, qc_gt, qc_le, true_and, and_true, and_self, true_or, or_true, false_or, or_false, false_and, and_false, not_true_eq_false, not_false_eq_true, Classical.not_not, true_implies, false_implies, implies_true, exists_eq_left, exists_eq_left', Option.some.injEq, reduceIte, Nat.reduceEqDiff, Nat.reduceLT, Nat.reduceLeDiff, Nat.reduceAdd, Nat.reduceSub, Nat.reduceMul, eq_self, ne_eq, and_imp, forall_const, reduceCtorEq, am_w, List.map_cons, List.map_nil, List.sum_cons, List.sum_nil, Value.category, Nat.zero_le, Nat.le_refl]
      refine ⟨fun z => by omega, fun _ => ⟨fun z1 => ?_, fun z1 => ⟨by omega, fun z2 => ?_, fun z2 => ?_⟩⟩⟩
      · rw [if_neg (by unfold bgb; rw [decide_eq_false (by omega)]; exact Bool.false_ne_true)] at nx
        exact nx
      · rw [hf (p + i) (by omega), b01_z] at z2
        rw [if_neg (by unfold bgb; rw [decide_eq_false (by rw [z2]; exact fun w => Bool.false_ne_true w.2)]; exact Bool.false_ne_true)] at nx
        exact nx
      · rw [hf (p + i) (by omega), b01_z, Bool.not_eq_false] at z2
        rw [if_pos (by unfold bgb; exact decide_eq_true ⟨by omega, z2⟩)] at nx
        exact nx
  have key : ∀ (d i : Nat) (q : am_H), d + i = (k + 7) / 8 → md_s q m ad → am_I q 10 24 m = Int32.ofNat (n + i) → am_A q (ad 26) = am_A h (ad 26) →
      am_Ev tt 162 2 [some (.ref m), some (.int (Int32.ofNat k)), some (.int (Int32.ofNat (8 * i))), none, none] [] q (am_pV (fun h' => h' = ml m ad q ((List.range' i d).map (fun q => b8r (bgb k g) (Int32.ofNat 0) 8 (8 * q)))) no_x) := by
    intro d
    induction d with
    | zero =>
      intro i q e0 s0 e1 ea
      refine vc_162_2 tt m _ _ _ _ _ ?_
      simp (disch := omega) only [qi_lt, qi_le, qi_eq, qi_nn, qi_in, qi_add, qi_l, ql_i, ql_lt, ql_le, ql_eq, ql_add, qc_lt, qc_eq, qc_ge, qc_gt, qc_le, true_and, and_true, and_self, true_or, or_true, false_or, or_false, false_and, and_false, not_true_eq_false, not_false_eq_true, Classical.not_not, true_implies, false_implies, implies_true, exists_eq_left, exists_eq_left', Option.some.injEq, reduceIte, Nat.reduceEqDiff, Nat.reduceLT, Nat.reduceLeDiff, Nat.reduceAdd, Nat.reduceSub, Nat.reduceMul, eq_self, ne_eq, and_imp, forall_const, reduceCtorEq, am_w, List.map_cons, List.map_nil, List.sum_cons, List.sum_nil, Value.category, Nat.zero_le, Nat.le_refl]
      exact ⟨fun _ => rfl, fun z => by omega⟩
    | succ d ih =>
      intro i q e0 s0 e1 ea
      refine vc_162_2 tt m _ _ _ _ _ ?_
      simp (disch := omega) only [qi_lt, qi_le, qi_eq, qi_nn, qi_in, qi_add, qi_l, ql_i, ql_lt, ql_le, ql_eq, ql_add, qc_lt, qc_eq, qc_ge, qc_gt, qc_le, true_and, and_true, and_self, true_or, or_true, false_or, or_false, false_and, and_false, not_true_eq_false, not_false_eq_true, Classical.not_not, true_implies, false_implies, implies_true, exists_eq_left, exists_eq_left', Option.some.injEq, reduceIte, Nat.reduceEqDiff, Nat.reduceLT, Nat.reduceLeDiff, Nat.reduceAdd, Nat.reduceSub, Nat.reduceMul, eq_self, ne_eq, and_imp, forall_const, reduceCtorEq, am_w, List.map_cons, List.map_nil, List.sum_cons, List.sum_nil, Value.category, Nat.zero_le, Nat.le_refl]
      refine ⟨fun z => by omega, fun _ => key2 8 0 (8 * i) (n + i) q _ (by omega) (by omega) s0 e1 (by omega) ea ?_⟩
      have := ih (i + 1) (ml m ad q [b8r (bgb k g) (Int32.ofNat 0) 8 (8 * i)]) (by omega) (ml_mfr.md s0) (ml_p e1) (by rw [ml_A ne, ea])
      rw [ml_app] at this
      rw [List.range'_succ, List.map_cons]
      exact this
  exact vc_162_0 tt m _ h _ _ (key ((k + 7) / 8) 0 h (by omega) s e rfl)
theorem ct_mbitsSet {k : Nat} (s : md_s h m ad) (hk : k ≤ 24) : am_Ct tt 163 [.ref m, .int (Int32.ofNat k)] h (am_pI (fun r h' => r = Int32.ofNat (cn (fun j => decide (¬ am_A h (ad 26) j = Int32.ofNat 0)) k) ∧ h' = h) no_x) := by
  have key : ∀ (d i : Nat), d + i = k → am_Ev tt 163 4 [some (.ref m), some (.int (Int32.ofNat k)), some (.int (Int32.ofNat (cn (fun j => decide (¬ am_A h (ad 26) j = Int32.ofNat 0)) i))), some (.int (Int32.ofNat i))] [] h (am_pI (fun r h' => r = Int32.ofNat (cn (fun j => decide (¬ am_A h (ad 26) j = Int32.ofNat 0)) k) ∧ h' = h) no_x) := by
    intro d
    induction d with
    | zero =>
      intro i e
      have : i = k := by omega
      subst this
      refine vc_163_4 tt _ _ _ _ _ _ _ ?_
      simp (disch := omega) only [qi_lt, qi_le, qi_eq, qi_nn, qi_in, qi_add, qi_l, ql_i, ql_lt, ql_le, ql_eq, ql_add, qc_lt, qc_eq, qc_ge, qc_gt, qc_le, true_and, and_true, and_self, true_or, or_true, false_or, or_false, false_and, and_false, not_true_eq_false, not_false_eq_true, Classical.not_not, true_implies, false_implies, implies_true, exists_eq_left, exists_eq_left', Option.some.injEq, reduceIte, Nat.reduceEqDiff, Nat.reduceLT, Nat.reduceLeDiff, Nat.reduceAdd, Nat.reduceSub, Nat.reduceMul, eq_self, ne_eq, and_imp, forall_const, reduceCtorEq, am_w, List.map_cons, List.map_nil, List.sum_cons, List.sum_nil, Value.category, Nat.zero_le, Nat.le_refl]
    | succ d ih =>
      intro i e
      refine vc_163_4 tt _ _ _ _ _ _ _ ?_
      have i24 : i < 24 := by omega
      have lm : ¬ k ≤ i := by omega
      simp (disch := omega) only [s.1, md_f s, i24, lm, am_hs, qi_lt, qi_le, qi_eq, qi_nn, qi_in, qi_add, qi_l, ql_i, ql_lt, ql_le, ql_eq, ql_add, qc_lt, qc_eq, qc_ge, qc_gt, qc_le, true_and, and_true, and_self, true_or, or_true, false_or, or_false, false_and, and_false, not_true_eq_false, not_false_eq_true, Classical.not_not, true_implies, false_implies, implies_true, exists_eq_left, exists_eq_left', Option.some.injEq, reduceIte, Nat.reduceEqDiff, Nat.reduceLT, Nat.reduceLeDiff, Nat.reduceAdd, Nat.reduceSub, Nat.reduceMul, eq_self, ne_eq, and_imp, forall_const, reduceCtorEq, am_w, List.map_cons, List.map_nil, List.sum_cons, List.sum_nil, Value.category, Nat.zero_le, Nat.le_refl]
      have := ih (i + 1) (by omega)
      refine ⟨fun z => ?_, fun z => ?_⟩
      · rw [cn, if_neg (by simpa using z)] at this
        exact this
      · rw [cn, if_pos (by simpa using z)] at this
        exact this
  exact vc_163_0 tt _ _ h _ _ (key k 0 (by omega))
theorem ct_mfilesOf {b : Nat} (q : RM P h m ad S) (wf : wfS S) (hb : b < 6) : am_Ct tt 164 [.ref m, .int (Int32.ofNat b)] h (am_pI (fun r h' => r = Int32.ofNat (sfo (a_E S.1) b (a_n S.1)) ∧ h' = h) no_x) := by
  have s := q.1
  have n24 := wf.1.1
  have q2 := q.2.1
  have key : ∀ (d i : Nat), d + i = a_n S.1 → am_Ev tt 164 4 [some (.ref m), some (.int (Int32.ofNat b)), some (.int (Int32.ofNat (sfo (a_E S.1) b i))), some (.int (Int32.ofNat i))] [] h (am_pI (fun r h' => r = Int32.ofNat (sfo (a_E S.1) b (a_n S.1)) ∧ h' = h) no_x) := by
    intro d
    induction d with
    | zero =>
      intro i e
      have : i = a_n S.1 := by omega
      subst this
      refine vc_164_4 tt _ _ _ _ _ _ _ ?_
      simp (disch := omega) only [s.1, q2, qi_lt, qi_le, qi_eq, qi_nn, qi_in, qi_add, qi_l, ql_i, ql_lt, ql_le, ql_eq, ql_add, qc_lt, qc_eq, qc_ge, qc_gt, qc_le, true_and, and_true, and_self, true_or, or_true, false_or, or_false, false_and, and_false, not_true_eq_false, not_false_eq_true, Classical.not_not, true_implies, false_implies, implies_true, exists_eq_left, exists_eq_left', Option.some.injEq, reduceIte, Nat.reduceEqDiff, Nat.reduceLT, Nat.reduceLeDiff, Nat.reduceAdd, Nat.reduceSub, Nat.reduceMul, eq_self, ne_eq, and_imp, forall_const, reduceCtorEq, am_w, List.map_cons, List.map_nil, List.sum_cons, List.sum_nil, Value.category, Nat.zero_le, Nat.le_refl]
    | succ d ih =>
      intro i e
      obtain ⟨y1, y2, y3, y4, y5, y6⟩ := q.2.2.1 i (by omega)
      obtain ⟨g1, g2, g3, g4⟩ := wf.1.2.1 i (by omega)
      have i24 : i < 24 := by omega
      have nx := ih (i + 1) (by omega)
      rw [sfo] at nx
      refine vc_164_4 tt _ _ _ _ _ _ _ ?_
      simp (disch := omega) only [s.1, md_f s, q2, y4, y5, i24, am_hs, qi_lt, qi_le, qi_eq, qi_nn, qi_in, qi_add, qi_l, ql_i, ql_lt, ql_le, ql_eq, ql_add, qc_lt, qc_eq, qc_ge, qc_gt, qc_le, true_and, and_true, and_self, true_or, or_true, false_or, or_false, false_and, and_false, not_true_eq_false, not_false_eq_true, Classical.not_not, true_implies, false_implies, implies_true, exists_eq_left, exists_eq_left', Option.some.injEq, reduceIte, Nat.reduceEqDiff, Nat.reduceLT, Nat.reduceLeDiff, Nat.reduceAdd, Nat.reduceSub, Nat.reduceMul, eq_self, ne_eq, and_imp, forall_const, reduceCtorEq, am_w, List.map_cons, List.map_nil, List.sum_cons, List.sum_nil, Value.category, Nat.zero_le, Nat.le_refl]
      refine ⟨fun z => by omega, fun _ => ⟨fun z => ?_, fun z => ⟨fun z2 => ?_, fun z2 => ?_⟩⟩⟩
      · rw [if_neg (by omega)] at nx; exact nx
      · rw [if_neg (by omega)] at nx; exact nx
      · rw [if_pos (by omega)] at nx; exact nx
  exact vc_164_0 tt _ _ h _ _ (key (a_n S.1) 0 (by omega))
theorem ct_mbytesOf {b : Nat} (q : RM P h m ad S) (wf : wfS S) (hb : b < 6) : am_Ct tt 165 [.ref m, .int (Int32.ofNat b)] h (am_pI (fun r h' => r = Int32.ofNat (sbo (a_E S.1) b (a_n S.1)) ∧ h' = h) no_x) := by
  have s := q.1
  have n24 := wf.1.1
  have q2 := q.2.1
  have key : ∀ (d i : Nat), d + i = a_n S.1 → am_Ev tt 165 4 [some (.ref m), some (.int (Int32.ofNat b)), some (.int (Int32.ofNat (sbo (a_E S.1) b i))), some (.int (Int32.ofNat i))] [] h (am_pI (fun r h' => r = Int32.ofNat (sbo (a_E S.1) b (a_n S.1)) ∧ h' = h) no_x) := by
    intro d
    induction d with
    | zero =>
      intro i e
      have : i = a_n S.1 := by omega
      subst this
      refine vc_165_4 tt _ _ _ _ _ _ _ ?_
      simp (disch := omega) only [s.1, q2, qi_lt, qi_le, qi_eq, qi_nn, qi_in, qi_add, qi_l, ql_i, ql_lt, ql_le, ql_eq, ql_add, qc_lt, qc_eq, qc_ge, qc_gt, qc_le, true_and, and_true, and_self, true_or, or_true, false_or, or_false, false_and, and_false, not_true_eq_false, not_false_eq_true, Classical.not_not, true_implies, false_implies, implies_true, exists_eq_left, exists_eq_left', Option.some.injEq, reduceIte, Nat.reduceEqDiff, Nat.reduceLT, Nat.reduceLeDiff, Nat.reduceAdd, Nat.reduceSub, Nat.reduceMul, eq_self, ne_eq, and_imp, forall_const, reduceCtorEq, am_w, List.map_cons, List.map_nil, List.sum_cons, List.sum_nil, Value.category, Nat.zero_le, Nat.le_refl]
    | succ d ih =>
      intro i e
      obtain ⟨y1, y2, y3, y4, y5, y6⟩ := q.2.2.1 i (by omega)
      obtain ⟨g1, g2, g3, g4⟩ := wf.1.2.1 i (by omega)
      have i24 : i < 24 := by omega
      have nx := ih (i + 1) (by omega)
      rw [sbo] at nx
      refine vc_165_4 tt _ _ _ _ _ _ _ ?_
      simp (disch := omega) only [s.1, md_f s, q2, y4, y5, i24, am_hs, qi_lt, qi_le, qi_eq, qi_nn, qi_in, qi_add, qi_l, ql_i, ql_lt, ql_le, ql_eq, ql_add, qc_lt, qc_eq, qc_ge, qc_gt, qc_le, true_and, and_true, and_self, true_or, or_true, false_or, or_false, false_and, and_false, not_true_eq_false, not_false_eq_true, Classical.not_not, true_implies, false_implies, implies_true, exists_eq_left, exists_eq_left', Option.some.injEq, reduceIte, Nat.reduceEqDiff, Nat.reduceLT, Nat.reduceLeDiff, Nat.reduceAdd, Nat.reduceSub, Nat.reduceMul, eq_self, ne_eq, and_imp, forall_const, reduceCtorEq, am_w, List.map_cons, List.map_nil, List.sum_cons, List.sum_nil, Value.category, Nat.zero_le, Nat.le_refl]
      refine ⟨fun z => by omega, fun _ => ⟨fun z => ?_, fun z => ?_⟩⟩
      · rw [if_neg (by omega)] at nx; exact nx
      · rw [if_pos (by omega)] at nx; exact nx
  exact vc_165_0 tt _ _ h _ _ (key (a_n S.1) 0 (by omega))
theorem ct_mcform {n : Nat} (x : MX P h m ad S n) {k d : Int32} (hn : n + (cform k d).length ≤ 9300) : am_Ct tt 168 [.ref m, .int k, .int d] h (am_pV (fun h' => h' = ml m ad h (cform k d)) no_x) := by
  have d01 : ¬ Int32.ofNat 0 = Int32.ofNat 1 := by decide
  refine vc_168_0 tt _ _ _ h _ _ ⟨fun z0 => ⟨fun z1 => ?_, fun z1 => ?_⟩, fun z0 => ?_⟩
  · rw [cform, if_neg z1, if_neg z0] at hn ⊢
    simp only [List.length_cons, List.length_nil] at hn
    refine x.b (by omega) rfl fun h1 e1 x1 => x1.b (by omega) rfl fun h2 e2 x2 => x2.b (by omega) rfl fun h3 e3 x3 => ⟨fun z2 => x3.b (by omega) rfl fun h4 e4 x4 => ?_, fun z2 => x3.b (by omega) rfl fun h4 e4 x4 => ?_⟩
    · rw [if_neg z2, e4, e3, e2, e1, ml_app, ml_app, ml_app]; rfl
    · rw [if_pos (Classical.not_not.1 z2), e4, e3, e2, e1, ml_app, ml_app, ml_app]; rfl
  · rw [cform, if_pos (Classical.not_not.1 z1)] at hn ⊢
    simp only [List.length_cons, List.length_nil] at hn
    refine x.b (by omega) rfl fun h1 e1 x1 => x1.b (by omega) rfl fun h2 e2 x2 => x2.b (by omega) rfl fun h3 e3 x3 => x3.b (by omega) rfl fun h4 e4 x4 => ?_
    rw [e4, e3, e2, e1, ml_app, ml_app, ml_app]; rfl
  · have z := Classical.not_not.1 z0
    rw [cform, if_neg (by rw [z]; exact d01), if_pos z] at hn ⊢
    simp only [List.length_cons, List.length_nil] at hn
    refine x.b (by omega) rfl fun h1 e1 x1 => x1.b (by omega) rfl fun h2 e2 x2 => ?_
    rw [e2, e1, ml_app]; rfl
end MO
