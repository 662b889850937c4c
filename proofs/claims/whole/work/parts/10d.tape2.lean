/-! deps: 10c -/
/-! ===== the class's tape: numbers, bits, little-endian longs, checks ===== -/
/-! 72 yX6_addBits -/
theorem vc_72_0 (tt : Nat → Nat) (a0 : Nat) (a1 : Nat) (a2 : Int32) (h : am_H) (Q : am_H → Prop) (Qx : String → am_H → Prop) (q :
  am_Ev tt 72 2 [some (.ref a0), some (.ref a1), some (.int a2), some (.int (Int32.ofNat 0)), none, none, none] [] h (am_pV Q Qx)) :
  am_Ev tt 72 0 [some (.ref a0), some (.ref a1), some (.int a2), none, none, none, none] [] h (am_pV Q Qx) := am_vc 5 [(2, [true, true, true, true, false, false, false]), (13, [true, true, true, true, true, true, false])] q
theorem vc_72_2 (tt : Nat → Nat) (a0 : Nat) (a1 : Nat) (a2 : Int32) (a3 : Int32) (h : am_H) (Q : am_H → Prop) (Qx : String → am_H → Prop) (q :
  ((a2 ≤ a3 →
   Q h) ∧
  (¬ (a2 ≤ a3) →
   am_Ev tt 72 13 [some (.ref a0), some (.ref a1), some (.int a2), some (.int a3), some (.int (Int32.ofNat 0)), some (.int a3), none] [] h (am_pV Q Qx)))) :
  am_Ev tt 72 2 [some (.ref a0), some (.ref a1), some (.int a2), some (.int a3), none, none, none] [] h (am_pV Q Qx) := am_vc 10 [(2, [true, true, true, true, false, false, false]), (13, [true, true, true, true, true, true, false])] q
theorem vc_72_13 (tt : Nat → Nat) (a0 : Nat) (a1 : Nat) (a2 : Int32) (a3 : Int32) (a4 : Int32) (a5 : Int32) (h : am_H) (Q : am_H → Prop) (Qx : String → am_H → Prop) (q :
  (((a3 + (Int32.ofNat 8)) ≤ a5 →
   (am_K h a0 = 7 ∧ ∃ (Q2 : am_H → Prop) (X2 : String → am_H → Prop), am_Ct tt 68 [.ref a0, .int a4] h (am_pV Q2 X2) ∧ (∀ h1, Q2 h1 →
    am_Ev tt 72 2 [some (.ref a0), some (.ref a1), some (.int a2), some (.int (a3 + (Int32.ofNat 8))), none, none, none] [] h1 (am_pV Q Qx)) ∧ (∀ E3 h1, X2 E3 h1 → Qx E3 h1))) ∧
  (¬ ((a3 + (Int32.ofNat 8)) ≤ a5) →
   ((a2 ≤ a5 →
    (((Int32.ofNat 0) = (Int32.ofNat 0) →
     am_Ev tt 72 13 [some (.ref a0), some (.ref a1), some (.int a2), some (.int a3), some (.int (((Int32.ofNat 2) * a4) + (Int32.ofNat 0))), some (.int (a5 + (Int32.ofNat 1))), none] [] h (am_pV Q Qx)) ∧
    (¬ ((Int32.ofNat 0) = (Int32.ofNat 0)) →
     am_Ev tt 72 13 [some (.ref a0), some (.ref a1), some (.int a2), some (.int a3), some (.int (((Int32.ofNat 2) * a4) + (Int32.ofNat 1))), some (.int (a5 + (Int32.ofNat 1))), none] [] h (am_pV Q Qx)))) ∧
   (¬ (a2 ≤ a5) →
    ((20 < am_K h a1 ∧ (am_K h a1 ≤ 27 ∨ am_K h a1 = 31)) ∧
    (((Int32.ofNat (am_N h a1)) ≤ a5 →
     (((Int32.ofNat 0) = (Int32.ofNat 0) →
      am_Ev tt 72 13 [some (.ref a0), some (.ref a1), some (.int a2), some (.int a3), some (.int (((Int32.ofNat 2) * a4) + (Int32.ofNat 0))), some (.int (a5 + (Int32.ofNat 1))), none] [] h (am_pV Q Qx)) ∧
     (¬ ((Int32.ofNat 0) = (Int32.ofNat 0)) →
      am_Ev tt 72 13 [some (.ref a0), some (.ref a1), some (.int a2), some (.int a3), some (.int (((Int32.ofNat 2) * a4) + (Int32.ofNat 1))), some (.int (a5 + (Int32.ofNat 1))), none] [] h (am_pV Q Qx)))) ∧
    (¬ ((Int32.ofNat (am_N h a1)) ≤ a5) →
     ((am_K h a1 = 23 ∨ am_K h a1 = 24) ∧ vp_in a5 (am_N h a1) ∧
     (((am_A h a1 (a5).toNatClampNeg) = (Int32.ofNat 0) →
      (((Int32.ofNat 0) = (Int32.ofNat 0) →
       am_Ev tt 72 13 [some (.ref a0), some (.ref a1), some (.int a2), some (.int a3), some (.int (((Int32.ofNat 2) * a4) + (Int32.ofNat 0))), some (.int (a5 + (Int32.ofNat 1))), none] [] h (am_pV Q Qx)) ∧
      (¬ ((Int32.ofNat 0) = (Int32.ofNat 0)) →
       am_Ev tt 72 13 [some (.ref a0), some (.ref a1), some (.int a2), some (.int a3), some (.int (((Int32.ofNat 2) * a4) + (Int32.ofNat 1))), some (.int (a5 + (Int32.ofNat 1))), none] [] h (am_pV Q Qx)))) ∧
     (¬ ((am_A h a1 (a5).toNatClampNeg) = (Int32.ofNat 0)) →
      (((Int32.ofNat 1) = (Int32.ofNat 0) →
       am_Ev tt 72 13 [some (.ref a0), some (.ref a1), some (.int a2), some (.int a3), some (.int (((Int32.ofNat 2) * a4) + (Int32.ofNat 0))), some (.int (a5 + (Int32.ofNat 1))), none] [] h (am_pV Q Qx)) ∧
      (¬ ((Int32.ofNat 1) = (Int32.ofNat 0)) →
       am_Ev tt 72 13 [some (.ref a0), some (.ref a1), some (.int a2), some (.int a3), some (.int (((Int32.ofNat 2) * a4) + (Int32.ofNat 1))), some (.int (a5 + (Int32.ofNat 1))), none] [] h (am_pV Q Qx)))))))))))))) :
  am_Ev tt 72 13 [some (.ref a0), some (.ref a1), some (.int a2), some (.int a3), some (.int a4), some (.int a5), none] [] h (am_pV Q Qx) := am_vc 33 [(2, [true, true, true, true, false, false, false]), (13, [true, true, true, true, true, true, false])] q

/-! 73 yX6_setLittle -/
theorem vc_73_0 (tt : Nat → Nat) (a0 : Nat) (a1 : Int32) (a2 : Int64) (a4 : Int32) (h : am_H) (Q : am_H → Prop) (Qx : String → am_H → Prop) (q :
  am_Ev tt 73 3 [some (.ref a0), some (.int a1), some (.long a2), none, some (.int a4), some (.int (Int32.ofNat 0))] [] h (am_pV Q Qx)) :
  am_Ev tt 73 0 [some (.ref a0), some (.int a1), some (.long a2), none, some (.int a4), none] [] h (am_pV Q Qx) := am_vc 5 [(3, [true, true, true, false, true, true])] q
theorem vc_73_3 (tt : Nat → Nat) (a0 : Nat) (a1 : Int32) (a2 : Int64) (a4 : Int32) (a5 : Int32) (h : am_H) (Q : am_H → Prop) (Qx : String → am_H → Prop) (q :
  ((a4 ≤ a5 →
   Q h) ∧
  (¬ (a4 ≤ a5) →
   (am_K h a0 = 7 ∧ ∃ (Q2 : Int32 → am_H → Prop) (X2 : String → am_H → Prop), am_Ct tt 67 [.ref a0, .long ((a1 + a5)).toInt64] h (am_pI Q2 X2) ∧ (∀ x3 h1, Q2 x3 h1 →
    ((x3 = (Int32.ofNat 0) →
     am_Ev tt 73 3 [some (.ref a0), some (.int a1), some (.long a2), none, some (.int a4), some (.int (a5 + (Int32.ofNat 1)))] [] h1 (am_pV Q Qx)) ∧
    (¬ (x3 = (Int32.ofNat 0)) →
     (am_K h1 a0 = 7 ∧ ∃ q4, am_R h1 6 0 a0 = some q4 ∧
     (vp_in (a1 + a5) (am_N h1 q4) ∧ ∃ w5, ((am_K h1 q4 = 23 ∧ w5 = (((((a2).toUInt64 >>> ((((Int32.ofNat 8) * a5)).toInt64.toUInt64 &&& Int64.toUInt64 63)).toInt64).toInt32).toInt8.toInt32).toInt8.toInt32) ∨ (am_K h1 q4 = 24 ∧ w5 = (((((a2).toUInt64 >>> ((((Int32.ofNat 8) * a5)).toInt64.toUInt64 &&& Int64.toUInt64 63)).toInt64).toInt32).toInt8.toInt32 &&& 1))) ∧
     am_Ev tt 73 3 [some (.ref a0), some (.int a1), some (.long a2), none, some (.int a4), some (.int (a5 + (Int32.ofNat 1)))] [] (am_sA h1 q4 ((a1 + a5)).toNatClampNeg w5) (am_pV Q Qx)))))) ∧ (∀ E6 h1, X2 E6 h1 → Qx E6 h1))))) :
  am_Ev tt 73 3 [some (.ref a0), some (.int a1), some (.long a2), none, some (.int a4), some (.int a5)] [] h (am_pV Q Qx) := am_vc 28 [(3, [true, true, true, false, true, true])] q

/-! 74 yX6_littleAt -/
theorem vc_74_0 (tt : Nat → Nat) (a0 : Nat) (a1 : Int32) (a2 : Int32) (h : am_H) (Q : Int64 → am_H → Prop) (Qx : String → am_H → Prop) (q :
  am_Ev tt 74 5 [some (.ref a0), some (.int a1), some (.int a2), some (.long (Int64.ofNat 0)), none, some (.int (Int32.ofNat 0))] [] h (am_pL Q Qx)) :
  am_Ev tt 74 0 [some (.ref a0), some (.int a1), some (.int a2), none, none, none] [] h (am_pL Q Qx) := am_vc 7 [(5, [true, true, true, true, false, true])] q
theorem vc_74_5 (tt : Nat → Nat) (a0 : Nat) (a1 : Int32) (a2 : Int32) (a3 : Int64) (a5 : Int32) (h : am_H) (Q : Int64 → am_H → Prop) (Qx : String → am_H → Prop) (q :
  ((a2 ≤ a5 →
   Q a3 h) ∧
  (¬ (a2 ≤ a5) →
   (am_K h a0 = 7 ∧ ∃ (Q2 : Int32 → am_H → Prop) (X2 : String → am_H → Prop), am_Ct tt 67 [.ref a0, .long ((a1 + a5)).toInt64] h (am_pI Q2 X2) ∧ (∀ x3 h1, Q2 x3 h1 →
    ((x3 = (Int32.ofNat 0) →
     am_Ev tt 74 5 [some (.ref a0), some (.int a1), some (.int a2), some (.long a3), none, some (.int (a5 + (Int32.ofNat 1)))] [] h1 (am_pL Q Qx)) ∧
    (¬ (x3 = (Int32.ofNat 0)) →
     (am_K h1 a0 = 7 ∧ ∃ q4, am_R h1 6 0 a0 = some q4 ∧
     ((am_K h1 q4 = 23 ∨ am_K h1 q4 = 24) ∧ vp_in (a1 + a5) (am_N h1 q4) ∧
     am_Ev tt 74 5 [some (.ref a0), some (.int a1), some (.int a2), some (.long (a3 ||| ((((am_A h1 q4 ((a1 + a5)).toNatClampNeg)).toInt64 &&& (Int64.ofNat 255)) <<< ((((Int32.ofNat 8) * a5)).toInt64 &&& 63)))), none, some (.int (a5 + (Int32.ofNat 1)))] [] h1 (am_pL Q Qx)))))) ∧ (∀ E5 h1, X2 E5 h1 → Qx E5 h1))))) :
  am_Ev tt 74 5 [some (.ref a0), some (.int a1), some (.int a2), some (.long a3), none, some (.int a5)] [] h (am_pL Q Qx) := am_vc 31 [(5, [true, true, true, true, false, true])] q

/-! 75 yX6_hasToldLength -/
theorem vc_75_0 (tt : Nat → Nat) (a0 : Nat) (h : am_H) (Q : Int32 → am_H → Prop) (Qx : String → am_H → Prop) (q :
  (am_K h a0 = 7 ∧ ∃ (Q2 : Int64 → am_H → Prop) (X2 : String → am_H → Prop), am_Ct tt 74 [.ref a0, .int (Int32.ofNat 12), .int (Int32.ofNat 8)] h (am_pL Q2 X2) ∧ (∀ x3 h1, Q2 x3 h1 →
   (am_K h1 a0 = 7 ∧ ∃ (Q5 : Int64 → am_H → Prop) (X5 : String → am_H → Prop), am_Ct tt 74 [.ref a0, .int (Int32.ofNat 20), .int (Int32.ofNat 8)] h1 (am_pL Q5 X5) ∧ (∀ x6 h4, Q5 x6 h4 →
    (((lg_cmp x3 (Int64.ofNat 0)) < (Int32.ofNat 0) →
     (((Int32.ofNat 0) = (Int32.ofNat 0) ∨ (Int32.ofNat 0) = (Int32.ofNat 1)) ∧ Q (Int32.ofNat 0) h4)) ∧
    (¬ ((lg_cmp x3 (Int64.ofNat 0)) < (Int32.ofNat 0)) →
     (am_K h4 a0 = 7 ∧
     (((Int32.ofNat 0) < (lg_cmp x3 ((am_I h4 6 1 a0)).toInt64) →
      (((Int32.ofNat 0) = (Int32.ofNat 0) ∨ (Int32.ofNat 0) = (Int32.ofNat 1)) ∧ Q (Int32.ofNat 0) h4)) ∧
     (¬ ((Int32.ofNat 0) < (lg_cmp x3 ((am_I h4 6 1 a0)).toInt64)) →
      (((lg_cmp x6 (Int64.ofNat 0)) < (Int32.ofNat 0) →
       (((Int32.ofNat 0) = (Int32.ofNat 0) ∨ (Int32.ofNat 0) = (Int32.ofNat 1)) ∧ Q (Int32.ofNat 0) h4)) ∧
      (¬ ((lg_cmp x6 (Int64.ofNat 0)) < (Int32.ofNat 0)) →
       (am_K h4 a0 = 7 ∧
       (((Int32.ofNat 0) < (lg_cmp x6 ((am_I h4 6 1 a0)).toInt64) →
        (((Int32.ofNat 0) = (Int32.ofNat 0) ∨ (Int32.ofNat 0) = (Int32.ofNat 1)) ∧ Q (Int32.ofNat 0) h4)) ∧
       (¬ ((Int32.ofNat 0) < (lg_cmp x6 ((am_I h4 6 1 a0)).toInt64)) →
        (am_K h4 a0 = 7 ∧
        ((¬ (lg_cmp (((Int64.ofNat 32) + x3) + x6) ((am_I h4 6 1 a0)).toInt64) = (Int32.ofNat 0) →
         (((Int32.ofNat 0) = (Int32.ofNat 0) ∨ (Int32.ofNat 0) = (Int32.ofNat 1)) ∧ Q (Int32.ofNat 0) h4)) ∧
        (¬ (¬ (lg_cmp (((Int64.ofNat 32) + x3) + x6) ((am_I h4 6 1 a0)).toInt64) = (Int32.ofNat 0)) →
         (((Int32.ofNat 1) = (Int32.ofNat 0) ∨ (Int32.ofNat 1) = (Int32.ofNat 1)) ∧ Q (Int32.ofNat 1) h4))))))))))))))) ∧ (∀ E7 h4, X5 E7 h4 → Qx E7 h4))) ∧ (∀ E8 h1, X2 E8 h1 → Qx E8 h1))) :
  am_Ev tt 75 0 [some (.ref a0), none, none, none, none] [] h (am_pI Q Qx) := am_vc 45 [] q

/-! 76 yX6_headCheck -/
theorem vc_76_0 (tt : Nat → Nat) (a0 : Nat) (h : am_H) (Q : Int32 → am_H → Prop) (Qx : String → am_H → Prop) (q :
  (am_K h a0 = 7 ∧ ∃ q1, am_R h 6 0 a0 = some q1 ∧
  (∃ (Q3 : Int32 → am_H → Prop), am_Ct tt 126 [.ref q1, .int (Int32.ofNat 12), .int (Int32.ofNat 32)] h (am_pI Q3 (fun _ _ => False)) ∧ (∀ x4 h2, Q3 x4 h2 →
   Q x4 h2)))) :
  am_Ev tt 76 0 [some (.ref a0)] [] h (am_pI Q Qx) := am_vc 8 [] q

/-! 77 yX6_headerCheck -/
theorem vc_77_0 (tt : Nat → Nat) (a0 : Nat) (h : am_H) (Q : Int32 → am_H → Prop) (Qx : String → am_H → Prop) (q :
  (am_K h a0 = 7 ∧ ∃ q1, am_R h 6 0 a0 = some q1 ∧
  (am_K h a0 = 7 ∧ ∃ (Q3 : Int64 → am_H → Prop) (X3 : String → am_H → Prop), am_Ct tt 74 [.ref a0, .int (Int32.ofNat 12), .int (Int32.ofNat 8)] h (am_pL Q3 X3) ∧ (∀ x4 h2, Q3 x4 h2 →
   (am_K h2 a0 = 7 ∧
   (∃ (Q6 : Int32 → am_H → Prop), am_Ct tt 126 [.ref q1, .int ((Int32.ofNat 32) + (x4).toInt32), .int (am_I h2 6 1 a0)] h2 (am_pI Q6 (fun _ _ => False)) ∧ (∀ x7 h5, Q6 x7 h5 →
    Q x7 h5)))) ∧ (∀ E8 h2, X3 E8 h2 → Qx E8 h2)))) :
  am_Ev tt 77 0 [some (.ref a0)] [] h (am_pI Q Qx) := am_vc 15 [] q

/-! 78 yX6_sealHead -/
theorem vc_78_0 (tt : Nat → Nat) (a0 : Nat) (h : am_H) (Q : am_H → Prop) (Qx : String → am_H → Prop) (q :
  (am_K h a0 = 7 ∧ ∃ (Q2 : Int32 → am_H → Prop) (X2 : String → am_H → Prop), am_Ct tt 76 [.ref a0] h (am_pI Q2 X2) ∧ (∀ x3 h1, Q2 x3 h1 →
   (am_K h1 a0 = 7 ∧ ∃ (Q5 : am_H → Prop) (X5 : String → am_H → Prop), am_Ct tt 73 [.ref a0, .int (Int32.ofNat 8), .long (x3).toInt64, .int (Int32.ofNat 4)] h1 (am_pV Q5 X5) ∧ (∀ h4, Q5 h4 →
    Q h4) ∧ (∀ E6 h4, X5 E6 h4 → Qx E6 h4))) ∧ (∀ E7 h1, X2 E7 h1 → Qx E7 h1))) :
  am_Ev tt 78 0 [some (.ref a0)] [] h (am_pV Q Qx) := am_vc 10 [] q

/-! 79 yX6_sealHeader -/
theorem vc_79_0 (tt : Nat → Nat) (a0 : Nat) (h : am_H) (Q : am_H → Prop) (Qx : String → am_H → Prop) (q :
  (am_K h a0 = 7 ∧ ∃ (Q2 : Int32 → am_H → Prop) (X2 : String → am_H → Prop), am_Ct tt 77 [.ref a0] h (am_pI Q2 X2) ∧ (∀ x3 h1, Q2 x3 h1 →
   (am_K h1 a0 = 7 ∧ ∃ (Q5 : am_H → Prop) (X5 : String → am_H → Prop), am_Ct tt 73 [.ref a0, .int (Int32.ofNat 28), .long (x3).toInt64, .int (Int32.ofNat 4)] h1 (am_pV Q5 X5) ∧ (∀ h4, Q5 h4 →
    Q h4) ∧ (∀ E6 h4, X5 E6 h4 → Qx E6 h4))) ∧ (∀ E7 h1, X2 E7 h1 → Qx E7 h1))) :
  am_Ev tt 79 0 [some (.ref a0)] [] h (am_pV Q Qx) := am_vc 10 [] q

/-! 126 yX9_checkOf -/
theorem vc_126_0 (tt : Nat → Nat) (a0 : Nat) (a1 : Int32) (a2 : Int32) (h : am_H) (Q : Int32 → am_H → Prop) (Qx : String → am_H → Prop) (q :
  (am_w [] ≤ 8 ∧
  am_Ev tt 126 9 [some (.ref a0), none, some (.int a2), some (.int (-1 : Int32)), some (.int (if a1 < (Int32.ofNat 0) then (Int32.ofNat 0) else a1))] [] h (am_pI Q Qx))) :
  am_Ev tt 126 0 [some (.ref a0), some (.int a1), some (.int a2), none, none] [] h (am_pI Q Qx) := am_vc 9 [(9, [true, false, true, true, true])] q
theorem vc_126_9 (tt : Nat → Nat) (a0 : Nat) (a2 : Int32) (a3 : Int32) (a4 : Int32) (h : am_H) (Q : Int32 → am_H → Prop) (Qx : String → am_H → Prop) (q :
  ((a2 ≤ a4 →
   Q (a3 ^^^ (-1 : Int32)) h) ∧
  (¬ (a2 ≤ a4) →
   ((20 < am_K h a0 ∧ (am_K h a0 ≤ 27 ∨ am_K h a0 = 31)) ∧
   (((Int32.ofNat (am_N h a0)) ≤ a4 →
    Q (a3 ^^^ (-1 : Int32)) h) ∧
   (¬ ((Int32.ofNat (am_N h a0)) ≤ a4) →
    ((am_K h a0 = 23 ∨ am_K h a0 = 24) ∧ vp_in a4 (am_N h a0) ∧
    ((am_K h (tt 1) = 21 ∨ am_K h (tt 1) = 31) ∧ vp_in ((a3 ^^^ ((am_A h a0 (a4).toNatClampNeg) &&& (Int32.ofNat 255))) &&& (Int32.ofNat 15)) (am_N h (tt 1)) ∧
    ((am_K h (tt 1) = 21 ∨ am_K h (tt 1) = 31) ∧ vp_in (((((a3 ^^^ ((am_A h a0 (a4).toNatClampNeg) &&& (Int32.ofNat 255)))).toUInt32 >>> (((Int32.ofNat 4)).toUInt32 &&& Int32.toUInt32 31)).toInt32 ^^^ (am_A h (tt 1) (((a3 ^^^ ((am_A h a0 (a4).toNatClampNeg) &&& (Int32.ofNat 255))) &&& (Int32.ofNat 15))).toNatClampNeg)) &&& (Int32.ofNat 15)) (am_N h (tt 1)) ∧
    am_Ev tt 126 9 [some (.ref a0), none, some (.int a2), some (.int (((((((a3 ^^^ ((am_A h a0 (a4).toNatClampNeg) &&& (Int32.ofNat 255)))).toUInt32 >>> (((Int32.ofNat 4)).toUInt32 &&& Int32.toUInt32 31)).toInt32 ^^^ (am_A h (tt 1) (((a3 ^^^ ((am_A h a0 (a4).toNatClampNeg) &&& (Int32.ofNat 255))) &&& (Int32.ofNat 15))).toNatClampNeg))).toUInt32 >>> (((Int32.ofNat 4)).toUInt32 &&& Int32.toUInt32 31)).toInt32 ^^^ (am_A h (tt 1) ((((((a3 ^^^ ((am_A h a0 (a4).toNatClampNeg) &&& (Int32.ofNat 255)))).toUInt32 >>> (((Int32.ofNat 4)).toUInt32 &&& Int32.toUInt32 31)).toInt32 ^^^ (am_A h (tt 1) (((a3 ^^^ ((am_A h a0 (a4).toNatClampNeg) &&& (Int32.ofNat 255))) &&& (Int32.ofNat 15))).toNatClampNeg)) &&& (Int32.ofNat 15))).toNatClampNeg))), some (.int (a4 + (Int32.ofNat 1)))] [] h (am_pI Q Qx)))))))))) :
  am_Ev tt 126 9 [some (.ref a0), none, some (.int a2), some (.int a3), some (.int a4)] [] h (am_pI Q Qx) := am_vc 40 [(9, [true, false, true, true, true])] q

theorem us_n {m s : Nat} (hm : m < 9223372036854775808) (hs : s < 64) : ((Int64.ofNat m).toUInt64 >>> UInt64.ofNat s).toInt64 = Int64.ofNat (m >>> s) := by
  apply Int64.toBitVec_inj.1
  apply BitVec.eq_of_toNat_eq
  simp [UInt64.toBitVec_shiftRight]
  rw [Nat.mod_eq_of_lt (by omega : m < 18446744073709551616), Nat.mod_eq_of_lt (by omega : s < 64)]
  rw [Nat.mod_eq_of_lt]
  have := Nat.shiftRight_le m s
  omega
/-- a NUMBER below 16384 -/
def nb (m : Nat) : List Int32 := if m < 128 then [Int32.ofNat m] else [Int32.ofNat (128 + m / 256), Int32.ofNat (m % 256)]
theorem nb_a : ∀ m, m < 128 → ((Int32.ofNat 65280 >>> (Int32.ofNat 0 &&& 31)) ||| Int32.ofNat m).toInt8 = (Int32.ofNat m).toInt8 := by decide
theorem nb_b : ∀ m, m < 64 → ((Int32.ofNat 65280 >>> (Int32.ofNat 1 &&& 31)) ||| Int32.ofNat m).toInt8 = (Int32.ofNat (128 + m)).toInt8 := by decide
theorem nb_c (m : Nat) : (Int32.ofNat m).toInt8 = (Int32.ofNat (m % 256)).toInt8 := by
  have e : ∀ m, (Int32.ofNat m).toInt8 = Int8.ofNat m := fun m => by
    apply Int8.toBitVec_inj.1
    rw [Int32.toBitVec_toInt8, Int32.toBitVec_ofNat', Int8.toBitVec_ofNat', BitVec.signExtend_eq_setWidth_of_le _ (by omega)]
    apply BitVec.eq_of_toNat_eq
    simp
  rw [e, e]
  apply Int8.toBitVec_inj.1
  apply BitVec.eq_of_toNat_eq
  simp
theorem ct_addNumber {tt : Nat → Nat} {h : am_H} {t b n m : Nat} (q : tp_n h t b n) (hm : m < 16384) : am_Ct tt 71 [.ref t, .long (Int64.ofNat m)] h (am_pV (fun h' => h' = tp_l t b h (nb m)) no_x) := by
  have hK := q.1.1
  have s7 : ((Int64.ofNat m).toUInt64 >>> ((Int64.ofNat (7 * 1)).toUInt64 &&& Int64.toUInt64 63)).toInt64 = Int64.ofNat (m >>> 7) := by rw [sh_u7 1 (by omega)]; exact us_n (by omega) (by omega)
  have s14 : ((Int64.ofNat m).toUInt64 >>> ((Int64.ofNat (7 * 2)).toUInt64 &&& Int64.toUInt64 63)).toInt64 = Int64.ofNat (m >>> 14) := by rw [sh_u7 2 (by omega)]; exact us_n (by omega) (by omega)
  have s0 : ((Int64.ofNat m).toUInt64 >>> ((Int64.ofNat (8 * 0)).toUInt64 &&& Int64.toUInt64 63)).toInt64 = Int64.ofNat m := by rw [sh_u8 0 (by omega)]; exact us_n (by omega) (by omega)
  have s8 : ((Int64.ofNat m).toUInt64 >>> ((Int64.ofNat (8 * 1)).toUInt64 &&& Int64.toUInt64 63)).toInt64 = Int64.ofNat (m >>> 8) := by rw [sh_u8 1 (by omega)]; exact us_n (by omega) (by omega)
  have e7 : m >>> 7 = m / 128 := Nat.shiftRight_eq_div_pow m 7
  have e14 : m >>> 14 = m / 16384 := Nat.shiftRight_eq_div_pow m 14
  have e8 : m >>> 8 = m / 256 := Nat.shiftRight_eq_div_pow m 8
  refine vc_71_0 tt t _ h _ _ (vc_71_2 tt t _ _ h _ _ ?_)
  simp (disch := omega) only [hK, qi_mul, qi_lt, qi_le, qi_eq, qi_nn, qi_in, qi_add, qi_l, ql_i, ql_lt, ql_le, ql_eq, ql_add, qc_lt, qc_eq, qc_ge, qc_gt, qc_le, true_and, and_true, and_self, true_or, or_true, false_or, or_false, false_and, and_false, not_true_eq_false, not_false_eq_true, Classical.not_not, true_implies, false_implies, implies_true, exists_eq_left, exists_eq_left', Option.some.injEq, reduceIte, Nat.reduceEqDiff, Nat.reduceLT, Nat.reduceLeDiff, Nat.reduceAdd, Nat.reduceSub, Nat.reduceMul, eq_self, ne_eq, and_imp, forall_const, reduceCtorEq, am_w, List.map_cons, List.map_nil, List.sum_cons, List.sum_nil, Value.category, Nat.zero_le, Nat.le_refl, s7, s0, e7]
  refine ⟨fun e => ?_, fun e => ?_⟩
  · refine ⟨_, _, ct_addByte q, fun k e' => ?_, fun _ _ z => z⟩
    subst e'
    refine vc_71_60 tt t _ _ _ _ _ _ ?_
    simp (disch := omega) only [qi_lt, qi_le, qi_eq, qi_nn, qi_in, qi_add, qi_l, ql_i, ql_lt, ql_le, ql_eq, ql_add, qc_lt, qc_eq, qc_ge, qc_gt, qc_le, true_and, and_true, and_self, true_or, or_true, false_or, or_false, false_and, and_false, not_true_eq_false, not_false_eq_true, Classical.not_not, true_implies, false_implies, implies_true, exists_eq_left, exists_eq_left', Option.some.injEq, reduceIte, Nat.reduceEqDiff, Nat.reduceLT, Nat.reduceLeDiff, Nat.reduceAdd, Nat.reduceSub, Nat.reduceMul, eq_self, ne_eq, and_imp, forall_const, reduceCtorEq, am_w, List.map_cons, List.map_nil, List.sum_cons, List.sum_nil, Value.category, Nat.zero_le, Nat.le_refl]
    rw [nb, if_pos (by omega), tp_l_cons, tp_l_nil]
    exact tp_b_8 (nb_a m (by omega))
  · refine vc_71_2 tt t _ _ h _ _ ?_
    simp (disch := omega) only [hK, qi_mul, qi_lt, qi_le, qi_eq, qi_nn, qi_in, qi_add, qi_l, ql_i, ql_lt, ql_le, ql_eq, ql_add, qc_lt, qc_eq, qc_ge, qc_gt, qc_le, true_and, and_true, and_self, true_or, or_true, false_or, or_false, false_and, and_false, not_true_eq_false, not_false_eq_true, Classical.not_not, true_implies, false_implies, implies_true, exists_eq_left, exists_eq_left', Option.some.injEq, reduceIte, Nat.reduceEqDiff, Nat.reduceLT, Nat.reduceLeDiff, Nat.reduceAdd, Nat.reduceSub, Nat.reduceMul, eq_self, ne_eq, and_imp, forall_const, reduceCtorEq, am_w, List.map_cons, List.map_nil, List.sum_cons, List.sum_nil, Value.category, Nat.zero_le, Nat.le_refl, s14, s8, e14, e8]
    refine ⟨fun _ => ?_, fun e => by omega⟩
    refine ⟨_, _, ct_addByte q, fun k e' => ?_, fun _ _ z => z⟩
    subst e'
    refine vc_71_60 tt t _ _ _ _ _ _ ?_
    simp (disch := omega) only [tp_b_fr, hK, qi_mul, qi_lt, qi_le, qi_eq, qi_nn, qi_in, qi_add, qi_l, ql_i, ql_lt, ql_le, ql_eq, ql_add, qc_lt, qc_eq, qc_ge, qc_gt, qc_le, true_and, and_true, and_self, true_or, or_true, false_or, or_false, false_and, and_false, not_true_eq_false, not_false_eq_true, Classical.not_not, true_implies, false_implies, implies_true, exists_eq_left, exists_eq_left', Option.some.injEq, reduceIte, Nat.reduceEqDiff, Nat.reduceLT, Nat.reduceLeDiff, Nat.reduceAdd, Nat.reduceSub, Nat.reduceMul, eq_self, ne_eq, and_imp, forall_const, reduceCtorEq, am_w, List.map_cons, List.map_nil, List.sum_cons, List.sum_nil, Value.category, Nat.zero_le, Nat.le_refl, s0]
    refine ⟨_, _, ct_addByte (tp_b_n q), fun k e' => ?_, fun _ _ z => z⟩
    subst e'
    refine vc_71_60 tt t _ _ _ _ _ _ ?_
    simp (disch := omega) only [qi_lt, qi_le, qi_eq, qi_nn, qi_in, qi_add, qi_l, ql_i, ql_lt, ql_le, ql_eq, ql_add, qc_lt, qc_eq, qc_ge, qc_gt, qc_le, true_and, and_true, and_self, true_or, or_true, false_or, or_false, false_and, and_false, not_true_eq_false, not_false_eq_true, Classical.not_not, true_implies, false_implies, implies_true, exists_eq_left, exists_eq_left', Option.some.injEq, reduceIte, Nat.reduceEqDiff, Nat.reduceLT, Nat.reduceLeDiff, Nat.reduceAdd, Nat.reduceSub, Nat.reduceMul, eq_self, ne_eq, and_imp, forall_const, reduceCtorEq, am_w, List.map_cons, List.map_nil, List.sum_cons, List.sum_nil, Value.category, Nat.zero_le, Nat.le_refl]
    rw [nb, if_neg (by omega), tp_l_cons, tp_l_cons, tp_l_nil, tp_b_8 (nb_b (m / 256) (by omega)), tp_b_8 (nb_c m)]
/-- eight bits, the first highest -/
def b8r (g : Nat → Bool) : Int32 → Nat → Nat → Int32
  | v, 0, _ => v
  | v, d + 1, j => b8r g (Int32.ofNat 2 * v + (if g j then Int32.ofNat 1 else Int32.ofNat 0)) d (j + 1)
/-- a ROW OF BITS -/
def bbl (g : Nat → Bool) (n : Nat) : List Int32 := (List.range' 0 ((n + 7) / 8)).map (fun q => b8r g (Int32.ofNat 0) 8 (8 * q))
def bg (f : Nat → Int32) (n : Nat) (j : Nat) : Bool := decide (j < n ∧ ¬ f j = Int32.ofNat 0)
theorem ct_addBits {tt : Nat → Nat} {h : am_H} {t b n r m : Nat} (q : tp_n h t b n) (hr : am_K h r = 24) (hm : m ≤ am_N h r) (hN : am_N h r ≤ 60000) (hne : r ≠ b) : am_Ct tt 72 [.ref t, .ref r, .int (Int32.ofNat m)] h (am_pV (fun h' => h' = tp_l t b h (bbl (bg (am_A h r) m) m)) no_x) := by
  have key2 : ∀ (d j : Nat) (v : Int32) (i n : Nat) (k : am_H) (Q : am_H → Prop), d + j = i + 8 → i ≤ 60000 → tp_n k t b n → am_K k = am_K h → am_N k = am_N h → am_A k r = am_A h r →
      am_Ev tt 72 2 [some (.ref t), some (.ref r), some (.int (Int32.ofNat m)), some (.int (Int32.ofNat (i + 8))), none, none, none] [] (tp_b t b k (b8r (bg (am_A h r) m) v d j)) (am_pV Q no_x) →
      am_Ev tt 72 13 [some (.ref t), some (.ref r), some (.int (Int32.ofNat m)), some (.int (Int32.ofNat i)), some (.int v), some (.int (Int32.ofNat j)), none] [] k (am_pV Q no_x) := by
    intro d
    induction d with
    | zero =>
      intro j v i n k Q e hi q hK hN' hA z
      have hT : am_K h t = 7 := by rw [← hK]; exact q.1.1
      have ej : j = i + 8 := by omega
      subst ej
      refine vc_72_13 tt t r _ _ _ _ k _ _ ?_
      simp (disch := omega) only [hK, hN', hr, hT, qi_lt, qi_le, qi_eq, qi_nn, qi_in, qi_add, qi_l, ql_i, ql_lt, ql_le, ql_eq, ql_add, qc_lt, qc_eq, qc_ge, qc_gt, qc_le, true_and, and_true, and_self, true_or, or_true, false_or, or_false, false_and, and_false, not_true_eq_false, not_false_eq_true, Classical.not_not, true_implies, false_implies, implies_true, exists_eq_left, exists_eq_left', Option.some.injEq, reduceIte, Nat.reduceEqDiff, Nat.reduceLT, Nat.reduceLeDiff, Nat.reduceAdd, Nat.reduceSub, Nat.reduceMul, eq_self, ne_eq, and_imp, forall_const, reduceCtorEq, am_w, List.map_cons, List.map_nil, List.sum_cons, List.sum_nil, Value.category, Nat.zero_le, Nat.le_refl]
      exact ⟨_, _, ct_addByte q, fun k' e' => by subst e'; exact z, fun _ _ z => z⟩
    | succ d ih =>
      intro j v i n k Q e hi q hK hN' hA z
      have hT : am_K h t = 7 := by rw [← hK]; exact q.1.1
      refine vc_72_13 tt t r _ _ _ _ k _ _ ?_
      simp (disch := omega) only [hK, hN', hr, hT, hA, qi_lt, qi_le, qi_eq, qi_nn, qi_in, qi_add, qi_l, ql_i, ql_lt, ql_le, ql_eq, ql_add, qc_lt, qc_eq, qc_ge, qc_gt, qc_le, true_and, and_true, and_self, true_or, or_true, false_or, or_false, false_and, and_false, not_true_eq_false, not_false_eq_true, Classical.not_not, true_implies, false_implies, implies_true, exists_eq_left, exists_eq_left', Option.some.injEq, reduceIte, Nat.reduceEqDiff, Nat.reduceLT, Nat.reduceLeDiff, Nat.reduceAdd, Nat.reduceSub, Nat.reduceMul, eq_self, ne_eq, and_imp, forall_const, reduceCtorEq, am_w, List.map_cons, List.map_nil, List.sum_cons, List.sum_nil, Value.category, Nat.zero_le, Nat.le_refl]
      have go : ∀ w : Int32, w = (if bg (am_A h r) m j then Int32.ofNat 1 else Int32.ofNat 0) → am_Ev tt 72 13 [some (.ref t), some (.ref r), some (.int (Int32.ofNat m)), some (.int (Int32.ofNat i)), some (.int (Int32.ofNat 2 * v + w)), some (.int (Int32.ofNat (j + 1))), none] [] k (am_pV Q no_x) := by
        intro w ew
        refine ih (j + 1) _ i n k Q (by omega) hi q hK hN' hA ?_
        rw [ew]; exact z
      refine ⟨fun _ => by omega, fun _ => ⟨fun e1 => go _ (by rw [if_neg]; simp only [bg, decide_eq_true_eq]; omega), fun e1 => ⟨fun _ => by omega, fun _ => ⟨by omega, fun e2 => go _ (by rw [if_neg]; simp only [bg, decide_eq_true_eq]; exact fun w => w.2 e2), fun e2 => go _ (by rw [if_pos]; simp only [bg, decide_eq_true_eq]; exact ⟨by omega, e2⟩)⟩⟩⟩⟩
  have key : ∀ (d i n : Nat) (k : am_H), i ≤ d + i → d + i = (m + 7) / 8 → tp_n k t b n → am_K k = am_K h → am_N k = am_N h → am_A k r = am_A h r →
      am_Ev tt 72 2 [some (.ref t), some (.ref r), some (.int (Int32.ofNat m)), some (.int (Int32.ofNat (8 * i))), none, none, none] [] k (am_pV (fun h' => h' = tp_l t b k ((List.range' i d).map (fun q => b8r (bg (am_A h r) m) (Int32.ofNat 0) 8 (8 * q)))) no_x) := by
    intro d
    induction d with
    | zero =>
      intro i n k _ e q hK hN' hA
      refine vc_72_2 tt t r _ _ k _ _ ?_
      simp (disch := omega) only [qi_lt, qi_le, qi_eq, qi_nn, qi_in, qi_add, qi_l, ql_i, ql_lt, ql_le, ql_eq, ql_add, qc_lt, qc_eq, qc_ge, qc_gt, qc_le, true_and, and_true, and_self, true_or, or_true, false_or, or_false, false_and, and_false, not_true_eq_false, not_false_eq_true, Classical.not_not, true_implies, false_implies, implies_true, exists_eq_left, exists_eq_left', Option.some.injEq, reduceIte, Nat.reduceEqDiff, Nat.reduceLT, Nat.reduceLeDiff, Nat.reduceAdd, Nat.reduceSub, Nat.reduceMul, eq_self, ne_eq, and_imp, forall_const, reduceCtorEq, am_w, List.map_cons, List.map_nil, List.sum_cons, List.sum_nil, Value.category, Nat.zero_le, Nat.le_refl]
      exact ⟨fun _ => rfl, fun z => by omega⟩
    | succ d ih =>
      intro i n k _ e q hK hN' hA
      refine vc_72_2 tt t r _ _ k _ _ ?_
      simp (disch := omega) only [qi_lt, qi_le, qi_eq, qi_nn, qi_in, qi_add, qi_l, ql_i, ql_lt, ql_le, ql_eq, ql_add, qc_lt, qc_eq, qc_ge, qc_gt, qc_le, true_and, and_true, and_self, true_or, or_true, false_or, or_false, false_and, and_false, not_true_eq_false, not_false_eq_true, Classical.not_not, true_implies, false_implies, implies_true, exists_eq_left, exists_eq_left', Option.some.injEq, reduceIte, Nat.reduceEqDiff, Nat.reduceLT, Nat.reduceLeDiff, Nat.reduceAdd, Nat.reduceSub, Nat.reduceMul, eq_self, ne_eq, and_imp, forall_const, reduceCtorEq, am_w, List.map_cons, List.map_nil, List.sum_cons, List.sum_nil, Value.category, Nat.zero_le, Nat.le_refl]
      refine ⟨fun z => by omega, fun _ => key2 8 (8 * i) _ (8 * i) n k _ (by omega) (by omega) q hK hN' hA ?_⟩
      rw [List.range'_succ, List.map_cons, tp_l_cons]
      exact ih (i + 1) _ _ (by omega) (by omega) (tp_b_n q) (by simp only [tp_b_fr, hK]) (by simp only [tp_b_fr, hN']) (by rw [tp_b_A hne, hA])
  exact vc_72_0 tt t r _ h _ _ (key ((m + 7) / 8) 0 n h (by omega) (by omega) q rfl rfl rfl)
/-! one row changed -/
theorem cA_sA {h : am_H} {b i : Nat} {f : Nat → Int32} {v : Int32} : am_sA (am_cA h b f) b i v = am_cA h b (va_up f i v) := by
  simp only [am_sA, am_cA, am_K, am_I, am_J, am_R, am_N, am_A, am_B, am_C, am_U, am_V, Prod.mk.injEq, true_and, and_true]
  funext a j
  simp only [am_u2, va_up]
  by_cases e : a = b
  · by_cases e2 : j = i <;> simp [e, e2, va_up]
  · simp [e]
theorem cA_cA {h : am_H} {b : Nat} {f g : Nat → Int32} : am_cA (am_cA h b f) b g = am_cA h b g := by
  simp only [am_cA, am_K, am_I, am_J, am_R, am_N, am_A, am_B, am_C, am_U, am_V, Prod.mk.injEq, true_and, and_true]
  funext a
  simp only [va_up]
  split <;> rfl
theorem cA_id {h : am_H} {b : Nat} : am_cA h b (am_A h b) = h := by
  have : va_up (am_A h) b (am_A h b) = am_A h := by
    funext a
    simp only [va_up]
    split
    · next e => rw [e]
    · rfl
  unfold am_cA
  rw [this]
  rfl
theorem cA_A {h : am_H} {b : Nat} {f : Nat → Int32} : am_A (am_cA h b f) b = f := by simp only [am_hs, reduceIte]
theorem sA_cA {h : am_H} {b i : Nat} {v : Int32} : am_sA h b i v = am_cA h b (va_up (am_A h b) i v) := by
  conv => lhs; rw [← @cA_id h b]
  rw [cA_sA]
/-- bytes of a long laid into a row -/
def lay (f : Nat → Int32) (p : Nat) (v : Int64) (n : Nat) (j : Nat) : Int32 := if p ≤ j ∧ j < p + n then lb v (j - p) else f j
theorem lay_s {f : Nat → Int32} {p : Nat} {v : Int64} {i : Nat} : va_up (lay f p v i) (p + i) (lb v i) = lay f p v (i + 1) := by
  funext j
  simp only [va_up, lay]
  by_cases e : j = p + i
  · subst e
    rw [if_pos rfl, if_pos (by omega)]
    congr 1
    omega
  · rw [if_neg e]
    by_cases e2 : p ≤ j ∧ j < p + i
    · rw [if_pos e2, if_pos (by omega)]
    · rw [if_neg e2, if_neg (by omega)]
theorem ct_setLittle {tt : Nat → Nat} {h : am_H} {t b n p m : Nat} {v : Int64} (q : tp_n h t b n) (hm : m ≤ 8) (hp : p + m ≤ n) : am_Ct tt 73 [.ref t, .int (Int32.ofNat p), .long v, .int (Int32.ofNat m)] h (am_pV (fun h' => h' = am_cA h b (lay (am_A h b) p v m)) no_x) := by
  obtain ⟨⟨h1, h2, h3, h4⟩, hn, hl⟩ := q
  have key : ∀ (d i : Nat), d + i = m →
      am_Ev tt 73 3 [some (.ref t), some (.int (Int32.ofNat p)), some (.long v), none, some (.int (Int32.ofNat m)), some (.int (Int32.ofNat i))] [] (am_cA h b (lay (am_A h b) p v i)) (am_pV (fun h' => h' = am_cA h b (lay (am_A h b) p v m)) no_x) := by
    intro d
    induction d with
    | zero =>
      intro i e
      refine vc_73_3 tt t _ _ _ _ _ _ _ ?_
      have : m = i := by omega
      subst this
      simp (disch := omega) only [qi_lt, qi_le, qi_eq, qi_nn, qi_in, qi_add, qi_l, ql_i, ql_lt, ql_le, ql_eq, ql_add, qc_lt, qc_eq, qc_ge, qc_gt, qc_le, true_and, and_true, and_self, true_or, or_true, false_or, or_false, false_and, and_false, not_true_eq_false, not_false_eq_true, Classical.not_not, true_implies, false_implies, implies_true, exists_eq_left, exists_eq_left', Option.some.injEq, reduceIte, Nat.reduceEqDiff, Nat.reduceLT, Nat.reduceLeDiff, Nat.reduceAdd, Nat.reduceSub, Nat.reduceMul, eq_self, ne_eq, and_imp, forall_const, reduceCtorEq, am_w, List.map_cons, List.map_nil, List.sum_cons, List.sum_nil, Value.category, Nat.zero_le, Nat.le_refl]
    | succ d ih =>
      intro i e
      refine vc_73_3 tt t _ _ _ _ _ _ _ ?_
      simp (disch := omega) only [h1, am_hs, qi_lt, qi_le, qi_eq, qi_nn, qi_in, qi_add, qi_l, ql_i, ql_lt, ql_le, ql_eq, ql_add, qc_lt, qc_eq, qc_ge, qc_gt, qc_le, true_and, and_true, and_self, true_or, or_true, false_or, or_false, false_and, and_false, not_true_eq_false, not_false_eq_true, Classical.not_not, true_implies, false_implies, implies_true, exists_eq_left, exists_eq_left', Option.some.injEq, reduceIte, Nat.reduceEqDiff, Nat.reduceLT, Nat.reduceLeDiff, Nat.reduceAdd, Nat.reduceSub, Nat.reduceMul, eq_self, ne_eq, and_imp, forall_const, reduceCtorEq, am_w, List.map_cons, List.map_nil, List.sum_cons, List.sum_nil, Value.category, Nat.zero_le, Nat.le_refl]
      refine ⟨fun z => by omega, fun _ => ⟨_, _, ct_holds (n := n) h1 hn hl, fun x k e' => ?_, fun _ _ z => z⟩⟩
      obtain ⟨e1, e2⟩ := e'
      subst e1
      simp (disch := omega) only [qi_lt, qi_le, qi_eq, qi_nn, qi_in, qi_add, qi_l, ql_i, ql_lt, ql_le, ql_eq, ql_add, qc_lt, qc_eq, qc_ge, qc_gt, qc_le, true_and, and_true, and_self, true_or, or_true, false_or, or_false, false_and, and_false, not_true_eq_false, not_false_eq_true, Classical.not_not, true_implies, false_implies, implies_true, exists_eq_left, exists_eq_left', Option.some.injEq, reduceIte, Nat.reduceEqDiff, Nat.reduceLT, Nat.reduceLeDiff, Nat.reduceAdd, Nat.reduceSub, Nat.reduceMul, eq_self, ne_eq, and_imp, forall_const, reduceCtorEq, am_w, List.map_cons, List.map_nil, List.sum_cons, List.sum_nil, Value.category, Nat.zero_le, Nat.le_refl] at e2
      rw [if_pos (by omega)] at e2
      subst e2
      simp (disch := omega) only [h1, h2, h3, h4, qi_mul, am_hs, qi_lt, qi_le, qi_eq, qi_nn, qi_in, qi_add, qi_l, ql_i, ql_lt, ql_le, ql_eq, ql_add, qc_lt, qc_eq, qc_ge, qc_gt, qc_le, true_and, and_true, and_self, true_or, or_true, false_or, or_false, false_and, and_false, not_true_eq_false, not_false_eq_true, Classical.not_not, true_implies, false_implies, implies_true, exists_eq_left, exists_eq_left', Option.some.injEq, reduceIte, Nat.reduceEqDiff, Nat.reduceLT, Nat.reduceLeDiff, Nat.reduceAdd, Nat.reduceSub, Nat.reduceMul, eq_self, ne_eq, and_imp, forall_const, reduceCtorEq, am_w, List.map_cons, List.map_nil, List.sum_cons, List.sum_nil, Value.category, Nat.zero_le, Nat.le_refl]
      refine ⟨by omega, ?_⟩
      rw [cA_sA, q8_8, lb_u (by omega), lb_88, lay_s]
      exact ih (i + 1) (by omega)
  refine vc_73_0 tt t _ _ _ h _ _ ?_
  have h0 := key m 0 (by omega)
  have e : lay (am_A h b) p v 0 = am_A h b := by
    funext j
    rw [lay, if_neg (by omega)]
  rw [e, cA_id] at h0
  exact h0
theorem ct_littleAt {tt : Nat → Nat} {h : am_H} {t b n p m : Nat} (q : tp_n h t b n) (hm : m ≤ 8) (hp : p + m ≤ n) : am_Ct tt 74 [.ref t, .int (Int32.ofNat p), .int (Int32.ofNat m)] h (am_pL (fun x h' => h' = h ∧ x = lt (am_A h b) p m) no_x) := by
  obtain ⟨⟨h1, h2, h3, h4⟩, hn, hl⟩ := q
  have key : ∀ (d i : Nat), d + i = m →
      am_Ev tt 74 5 [some (.ref t), some (.int (Int32.ofNat p)), some (.int (Int32.ofNat m)), some (.long (lt (am_A h b) p i)), none, some (.int (Int32.ofNat i))] [] h (am_pL (fun x h' => h' = h ∧ x = lt (am_A h b) p m) no_x) := by
    intro d
    induction d with
    | zero =>
      intro i e
      refine vc_74_5 tt t _ _ _ _ _ _ _ ?_
      have : m = i := by omega
      subst this
      simp (disch := omega) only [qi_lt, qi_le, qi_eq, qi_nn, qi_in, qi_add, qi_l, ql_i, ql_lt, ql_le, ql_eq, ql_add, qc_lt, qc_eq, qc_ge, qc_gt, qc_le, true_and, and_true, and_self, true_or, or_true, false_or, or_false, false_and, and_false, not_true_eq_false, not_false_eq_true, Classical.not_not, true_implies, false_implies, implies_true, exists_eq_left, exists_eq_left', Option.some.injEq, reduceIte, Nat.reduceEqDiff, Nat.reduceLT, Nat.reduceLeDiff, Nat.reduceAdd, Nat.reduceSub, Nat.reduceMul, eq_self, ne_eq, and_imp, forall_const, reduceCtorEq, am_w, List.map_cons, List.map_nil, List.sum_cons, List.sum_nil, Value.category, Nat.zero_le, Nat.le_refl]
    | succ d ih =>
      intro i e
      refine vc_74_5 tt t _ _ _ _ _ _ _ ?_
      simp (disch := omega) only [h1, am_hs, qi_lt, qi_le, qi_eq, qi_nn, qi_in, qi_add, qi_l, ql_i, ql_lt, ql_le, ql_eq, ql_add, qc_lt, qc_eq, qc_ge, qc_gt, qc_le, true_and, and_true, and_self, true_or, or_true, false_or, or_false, false_and, and_false, not_true_eq_false, not_false_eq_true, Classical.not_not, true_implies, false_implies, implies_true, exists_eq_left, exists_eq_left', Option.some.injEq, reduceIte, Nat.reduceEqDiff, Nat.reduceLT, Nat.reduceLeDiff, Nat.reduceAdd, Nat.reduceSub, Nat.reduceMul, eq_self, ne_eq, and_imp, forall_const, reduceCtorEq, am_w, List.map_cons, List.map_nil, List.sum_cons, List.sum_nil, Value.category, Nat.zero_le, Nat.le_refl]
      refine ⟨fun z => by omega, fun _ => ⟨_, _, ct_holds (n := n) h1 hn hl, fun x k e' => ?_, fun _ _ z => z⟩⟩
      obtain ⟨e1, e2⟩ := e'
      subst e1
      simp (disch := omega) only [qi_lt, qi_le, qi_eq, qi_nn, qi_in, qi_add, qi_l, ql_i, ql_lt, ql_le, ql_eq, ql_add, qc_lt, qc_eq, qc_ge, qc_gt, qc_le, true_and, and_true, and_self, true_or, or_true, false_or, or_false, false_and, and_false, not_true_eq_false, not_false_eq_true, Classical.not_not, true_implies, false_implies, implies_true, exists_eq_left, exists_eq_left', Option.some.injEq, reduceIte, Nat.reduceEqDiff, Nat.reduceLT, Nat.reduceLeDiff, Nat.reduceAdd, Nat.reduceSub, Nat.reduceMul, eq_self, ne_eq, and_imp, forall_const, reduceCtorEq, am_w, List.map_cons, List.map_nil, List.sum_cons, List.sum_nil, Value.category, Nat.zero_le, Nat.le_refl] at e2
      rw [if_pos (by omega)] at e2
      subst e2
      simp (disch := omega) only [h1, h2, h3, h4, qi_mul, am_hs, qi_lt, qi_le, qi_eq, qi_nn, qi_in, qi_add, qi_l, ql_i, ql_lt, ql_le, ql_eq, ql_add, qc_lt, qc_eq, qc_ge, qc_gt, qc_le, true_and, and_true, and_self, true_or, or_true, false_or, or_false, false_and, and_false, not_true_eq_false, not_false_eq_true, Classical.not_not, true_implies, false_implies, implies_true, exists_eq_left, exists_eq_left', Option.some.injEq, reduceIte, Nat.reduceEqDiff, Nat.reduceLT, Nat.reduceLeDiff, Nat.reduceAdd, Nat.reduceSub, Nat.reduceMul, eq_self, ne_eq, and_imp, forall_const, reduceCtorEq, am_w, List.map_cons, List.map_nil, List.sum_cons, List.sum_nil, Value.category, Nat.zero_le, Nat.le_refl]
      refine ⟨by omega, ?_⟩
      rw [sh_s8 i (by omega)]
      exact ih (i + 1) (by omega)
  exact vc_74_0 tt t _ _ h _ _ (key m 0 (by omega))
/-- the class's constant rows -/
def sig : List Int32 := [55, 122, 188, 175, 39, 28, 0, 4]
def tk_s (tt : Nat → Nat) (h : am_H) : Prop := am_K h (tt 1) = 31 ∧ am_N h (tt 1) = 16 ∧ (∀ k, k < 16 → am_A h (tt 1) k = ckt.getD k 0) ∧ am_K h (tt 0) = 31 ∧ am_N h (tt 0) = 8 ∧ (∀ k, k < 8 → am_A h (tt 0) k = sig.getD k 0)
theorem ct_checkOf {tt : Nat → Nat} {h : am_H} {r p m : Nat} (hk : tk_s tt h) (hr : am_K h r = 23) (hp : p ≤ m) (hm : m ≤ am_N h r) (hN : am_N h r ≤ 60000) : am_Ct tt 126 [.ref r, .int (Int32.ofNat p), .int (Int32.ofNat m)] h (am_pI (fun x h' => h' = h ∧ x = ck (am_A h r) p (m - p)) no_x) := by
  obtain ⟨k1, k2, k3, _⟩ := hk
  have key : ∀ (d i : Nat) (c : Int32), d + i = m →
      am_Ev tt 126 9 [some (.ref r), none, some (.int (Int32.ofNat m)), some (.int c), some (.int (Int32.ofNat i))] [] h (am_pI (fun x h' => h' = h ∧ x = ckr (am_A h r) i d c ^^^ (-1)) no_x) := by
    intro d
    induction d with
    | zero =>
      intro i c e
      refine vc_126_9 tt r _ _ _ _ _ _ ?_
      have : m = i := by omega
      subst this
      simp (disch := omega) only [qi_lt, qi_le, qi_eq, qi_nn, qi_in, qi_add, qi_l, ql_i, ql_lt, ql_le, ql_eq, ql_add, qc_lt, qc_eq, qc_ge, qc_gt, qc_le, true_and, and_true, and_self, true_or, or_true, false_or, or_false, false_and, and_false, not_true_eq_false, not_false_eq_true, Classical.not_not, true_implies, false_implies, implies_true, exists_eq_left, exists_eq_left', Option.some.injEq, reduceIte, Nat.reduceEqDiff, Nat.reduceLT, Nat.reduceLeDiff, Nat.reduceAdd, Nat.reduceSub, Nat.reduceMul, eq_self, ne_eq, and_imp, forall_const, reduceCtorEq, am_w, List.map_cons, List.map_nil, List.sum_cons, List.sum_nil, Value.category, Nat.zero_le, Nat.le_refl, ckr]
    | succ d ih =>
      intro i c e
      refine vc_126_9 tt r _ _ _ _ _ _ ?_
      have step : ∀ c : Int32, am_A h (tt 1) (c &&& Int32.ofNat 15).toNatClampNeg = ckt.getD (c &&& Int32.ofNat 15).toNatClampNeg 0 := by
        intro c
        obtain ⟨k, hk, e⟩ := ck4_ix c
        rw [e]
        simp (disch := omega) only [qi_lt, qi_le, qi_eq, qi_nn, qi_in, qi_add, qi_l, ql_i, ql_lt, ql_le, ql_eq, ql_add, qc_lt, qc_eq, qc_ge, qc_gt, qc_le, k3]
      have inb : ∀ c : Int32, vp_in (c &&& Int32.ofNat 15) 16 := by
        intro c
        obtain ⟨k, hk, e⟩ := ck4_ix c
        rw [e]
        simp (disch := omega) only [qi_lt, qi_le, qi_eq, qi_nn, qi_in, qi_add, qi_l, ql_i, ql_lt, ql_le, ql_eq, ql_add, qc_lt, qc_eq, qc_ge, qc_gt, qc_le]
        exact hk
      simp (disch := omega) only [hr, k1, k2, step, inb, am_hs, qi_lt, qi_le, qi_eq, qi_nn, qi_in, qi_add, qi_l, ql_i, ql_lt, ql_le, ql_eq, ql_add, qc_lt, qc_eq, qc_ge, qc_gt, qc_le, true_and, and_true, and_self, true_or, or_true, false_or, or_false, false_and, and_false, not_true_eq_false, not_false_eq_true, Classical.not_not, true_implies, false_implies, implies_true, exists_eq_left, exists_eq_left', Option.some.injEq, reduceIte, Nat.reduceEqDiff, Nat.reduceLT, Nat.reduceLeDiff, Nat.reduceAdd, Nat.reduceSub, Nat.reduceMul, eq_self, ne_eq, and_imp, forall_const, reduceCtorEq, am_w, List.map_cons, List.map_nil, List.sum_cons, List.sum_nil, Value.category, Nat.zero_le, Nat.le_refl]
      refine ⟨fun z => by omega, fun _ => ⟨fun z => by omega, fun _ => ⟨by omega, ?_⟩⟩⟩
      have h0 := ih (i + 1) (ck4 (ck4 (c ^^^ (am_A h r i &&& Int32.ofNat 255)))) (by omega)
      rw [show ckr (am_A h r) i (d + 1) c = ckr (am_A h r) (i + 1) d (ck8 (c ^^^ (am_A h r i &&& Int32.ofNat 255))) from rfl, ← ck44]
      exact h0
  refine vc_126_0 tt r _ _ h _ _ ?_
  have h0 := key (m - p) p (-1) (by omega)
  have e : (if Int32.ofNat p < Int32.ofNat 0 then Int32.ofNat 0 else Int32.ofNat p) = Int32.ofNat p := by
    simp (disch := omega) only [qi_lt, qi_le, qi_eq, qi_nn, qi_in, qi_add, qi_l, ql_i, ql_lt, ql_le, ql_eq, ql_add, qc_lt, qc_eq, qc_ge, qc_gt, qc_le]
    rw [if_neg (by omega)]
  rw [e]
  exact ⟨by decide, h0⟩
theorem ct_headCheck {tt : Nat → Nat} {h : am_H} {t b n : Nat} (hk : tk_s tt h) (q : tp_n h t b n) : am_Ct tt 76 [.ref t] h (am_pI (fun x h' => h' = h ∧ x = ck (am_A h b) 12 20) no_x) := by
  obtain ⟨⟨h1, h2, h3, h4⟩, hn, hl⟩ := q
  refine vc_76_0 tt t h _ _ ?_
  simp (disch := omega) only [h1, h2, h3, h4, am_hs, qi_lt, qi_le, qi_eq, qi_nn, qi_in, qi_add, qi_l, ql_i, ql_lt, ql_le, ql_eq, ql_add, qc_lt, qc_eq, qc_ge, qc_gt, qc_le, true_and, and_true, and_self, true_or, or_true, false_or, or_false, false_and, and_false, not_true_eq_false, not_false_eq_true, Classical.not_not, true_implies, false_implies, implies_true, exists_eq_left, exists_eq_left', Option.some.injEq, reduceIte, Nat.reduceEqDiff, Nat.reduceLT, Nat.reduceLeDiff, Nat.reduceAdd, Nat.reduceSub, Nat.reduceMul, eq_self, ne_eq, and_imp, forall_const, reduceCtorEq, am_w, List.map_cons, List.map_nil, List.sum_cons, List.sum_nil, Value.category, Nat.zero_le, Nat.le_refl]
  exact ⟨_, ct_checkOf (p := 12) (m := 32) hk h3 (by omega) (by omega) (by omega), fun x k e => e⟩
theorem ct_sealHead {tt : Nat → Nat} {h : am_H} {t b n : Nat} (hk : tk_s tt h) (q : tp_n h t b n) (hn : 32 ≤ n) : am_Ct tt 78 [.ref t] h (am_pV (fun h' => h' = am_cA h b (lay (am_A h b) 8 (ck (am_A h b) 12 20).toInt64 4)) no_x) := by
  refine vc_78_0 tt t h _ _ ?_
  simp (disch := omega) only [q.1.1, am_hs, qi_lt, qi_le, qi_eq, qi_nn, qi_in, qi_add, qi_l, ql_i, ql_lt, ql_le, ql_eq, ql_add, qc_lt, qc_eq, qc_ge, qc_gt, qc_le, true_and, and_true, and_self, true_or, or_true, false_or, or_false, false_and, and_false, not_true_eq_false, not_false_eq_true, Classical.not_not, true_implies, false_implies, implies_true, exists_eq_left, exists_eq_left', Option.some.injEq, reduceIte, Nat.reduceEqDiff, Nat.reduceLT, Nat.reduceLeDiff, Nat.reduceAdd, Nat.reduceSub, Nat.reduceMul, eq_self, ne_eq, and_imp, forall_const, reduceCtorEq, am_w, List.map_cons, List.map_nil, List.sum_cons, List.sum_nil, Value.category, Nat.zero_le, Nat.le_refl]
  refine ⟨_, _, ct_headCheck hk q, fun x k e => ?_, fun _ _ z => z⟩
  obtain ⟨e1, e2⟩ := e
  subst e1 e2
  simp (disch := omega) only [q.1.1, am_hs, qi_lt, qi_le, qi_eq, qi_nn, qi_in, qi_add, qi_l, ql_i, ql_lt, ql_le, ql_eq, ql_add, qc_lt, qc_eq, qc_ge, qc_gt, qc_le, true_and, and_true, and_self, true_or, or_true, false_or, or_false, false_and, and_false, not_true_eq_false, not_false_eq_true, Classical.not_not, true_implies, false_implies, implies_true, exists_eq_left, exists_eq_left', Option.some.injEq, reduceIte, Nat.reduceEqDiff, Nat.reduceLT, Nat.reduceLeDiff, Nat.reduceAdd, Nat.reduceSub, Nat.reduceMul, eq_self, ne_eq, and_imp, forall_const, reduceCtorEq, am_w, List.map_cons, List.map_nil, List.sum_cons, List.sum_nil, Value.category, Nat.zero_le, Nat.le_refl]
  exact ⟨_, _, ct_setLittle (p := 8) (m := 4) q (by omega) (by omega), fun k e => e, fun _ _ z => z⟩
/-- the two longs of the head tell the length -/
def told (f : Nat → Int32) (n : Nat) : Prop := ¬ lt f 12 8 < Int64.ofNat 0 ∧ lt f 12 8 ≤ Int64.ofNat n ∧ ¬ lt f 20 8 < Int64.ofNat 0 ∧ lt f 20 8 ≤ Int64.ofNat n ∧ Int64.ofNat 32 + lt f 12 8 + lt f 20 8 = Int64.ofNat n
theorem ct_hasTold {tt : Nat → Nat} {h : am_H} {t b n : Nat} (q : tp_n h t b n) (hn : 32 ≤ n) : am_Ct tt 75 [.ref t] h (am_pI (fun x h' => h' = h ∧ (x = Int32.ofNat 1 ∧ told (am_A h b) n ∨ x = Int32.ofNat 0 ∧ ¬ told (am_A h b) n)) no_x) := by
  refine vc_75_0 tt t h _ _ ?_
  have := q.2.2
  simp (disch := omega) only [q.1.1, am_hs, qi_lt, qi_le, qi_eq, qi_nn, qi_in, qi_add, qi_l, ql_i, ql_lt, ql_le, ql_eq, ql_add, qc_lt, qc_eq, qc_ge, qc_gt, qc_le, true_and, and_true, and_self, true_or, or_true, false_or, or_false, false_and, and_false, not_true_eq_false, not_false_eq_true, Classical.not_not, true_implies, false_implies, implies_true, exists_eq_left, exists_eq_left', Option.some.injEq, reduceIte, Nat.reduceEqDiff, Nat.reduceLT, Nat.reduceLeDiff, Nat.reduceAdd, Nat.reduceSub, Nat.reduceMul, eq_self, ne_eq, and_imp, forall_const, reduceCtorEq, am_w, List.map_cons, List.map_nil, List.sum_cons, List.sum_nil, Value.category, Nat.zero_le, Nat.le_refl]
  refine ⟨_, _, ct_littleAt (p := 12) (m := 8) q (by omega) (by omega), fun x k e => ?_, fun _ _ z => z⟩
  obtain ⟨e1, e2⟩ := e
  subst e1 e2
  simp (disch := omega) only [q.1.1, am_hs, qi_lt, qi_le, qi_eq, qi_nn, qi_in, qi_add, qi_l, ql_i, ql_lt, ql_le, ql_eq, ql_add, qc_lt, qc_eq, qc_ge, qc_gt, qc_le, true_and, and_true, and_self, true_or, or_true, false_or, or_false, false_and, and_false, not_true_eq_false, not_false_eq_true, Classical.not_not, true_implies, false_implies, implies_true, exists_eq_left, exists_eq_left', Option.some.injEq, reduceIte, Nat.reduceEqDiff, Nat.reduceLT, Nat.reduceLeDiff, Nat.reduceAdd, Nat.reduceSub, Nat.reduceMul, eq_self, ne_eq, and_imp, forall_const, reduceCtorEq, am_w, List.map_cons, List.map_nil, List.sum_cons, List.sum_nil, Value.category, Nat.zero_le, Nat.le_refl]
  refine ⟨_, _, ct_littleAt (p := 20) (m := 8) q (by omega) (by omega), fun x k e => ?_, fun _ _ z => z⟩
  obtain ⟨e1, e2⟩ := e
  subst e1 e2
  simp (disch := omega) only [q.1.1, q.2.1, am_hs, qi_lt, qi_le, qi_eq, qi_nn, qi_in, qi_add, qi_l, ql_i, ql_lt, ql_le, ql_eq, ql_add, qc_lt, qc_eq, qc_ge, qc_gt, qc_le, true_and, and_true, and_self, true_or, or_true, false_or, or_false, false_and, and_false, not_true_eq_false, not_false_eq_true, Classical.not_not, true_implies, false_implies, implies_true, exists_eq_left, exists_eq_left', Option.some.injEq, reduceIte, Nat.reduceEqDiff, Nat.reduceLT, Nat.reduceLeDiff, Nat.reduceAdd, Nat.reduceSub, Nat.reduceMul, eq_self, ne_eq, and_imp, forall_const, reduceCtorEq, am_w, List.map_cons, List.map_nil, List.sum_cons, List.sum_nil, Value.category, Nat.zero_le, Nat.le_refl]
  unfold told
  grind
theorem told_n {f : Nat → Int32} {n : Nat} (hn : n ≤ 5000) (q : told f n) : ∃ o s, lt f 12 8 = Int64.ofNat o ∧ lt f 20 8 = Int64.ofNat s ∧ 32 + o + s = n := by
  obtain ⟨q1, q2, q3, q4, q5⟩ := q
  obtain ⟨o, ho, eo⟩ := ql_ge0 _ q1
  obtain ⟨s, hs, es⟩ := ql_ge0 _ q3
  refine ⟨o, s, eo, es, ?_⟩
  rw [eo] at q2 q5
  rw [es] at q4 q5
  simp (disch := omega) only [qi_lt, qi_le, qi_eq, qi_nn, qi_in, qi_add, qi_l, ql_i, ql_lt, ql_le, ql_eq, ql_add, qc_lt, qc_eq, qc_ge, qc_gt, qc_le] at q2 q4
  simp (disch := omega) only [qi_lt, qi_le, qi_eq, qi_nn, qi_in, qi_add, qi_l, ql_i, ql_lt, ql_le, ql_eq, ql_add, qc_lt, qc_eq, qc_ge, qc_gt, qc_le] at q5
  exact q5
theorem ct_headerCheck {tt : Nat → Nat} {h : am_H} {t b n o : Nat} (hk : tk_s tt h) (q : tp_n h t b n) (hn : 32 ≤ n) (ho : lt (am_A h b) 12 8 = Int64.ofNat o) (hl : 32 + o ≤ n) : am_Ct tt 77 [.ref t] h (am_pI (fun x h' => h' = h ∧ x = ck (am_A h b) (32 + o) (n - (32 + o))) no_x) := by
  obtain ⟨⟨h1, h2, h3, h4⟩, hn', hl'⟩ := q
  refine vc_77_0 tt t h _ _ ?_
  simp (disch := omega) only [h1, h2, h3, h4, hn', am_hs, qi_lt, qi_le, qi_eq, qi_nn, qi_in, qi_add, qi_l, ql_i, ql_lt, ql_le, ql_eq, ql_add, qc_lt, qc_eq, qc_ge, qc_gt, qc_le, true_and, and_true, and_self, true_or, or_true, false_or, or_false, false_and, and_false, not_true_eq_false, not_false_eq_true, Classical.not_not, true_implies, false_implies, implies_true, exists_eq_left, exists_eq_left', Option.some.injEq, reduceIte, Nat.reduceEqDiff, Nat.reduceLT, Nat.reduceLeDiff, Nat.reduceAdd, Nat.reduceSub, Nat.reduceMul, eq_self, ne_eq, and_imp, forall_const, reduceCtorEq, am_w, List.map_cons, List.map_nil, List.sum_cons, List.sum_nil, Value.category, Nat.zero_le, Nat.le_refl]
  refine ⟨_, _, ct_littleAt (p := 12) (m := 8) ⟨⟨h1, h2, h3, h4⟩, hn', hl'⟩ (by omega) (by omega), fun x k e => ?_, fun _ _ z => z⟩
  obtain ⟨e1, e2⟩ := e
  subst e1 e2
  simp (disch := omega) only [h1, h2, h3, h4, hn', ho, am_hs, qi_lt, qi_le, qi_eq, qi_nn, qi_in, qi_add, qi_l, ql_i, ql_lt, ql_le, ql_eq, ql_add, qc_lt, qc_eq, qc_ge, qc_gt, qc_le, true_and, and_true, and_self, true_or, or_true, false_or, or_false, false_and, and_false, not_true_eq_false, not_false_eq_true, Classical.not_not, true_implies, false_implies, implies_true, exists_eq_left, exists_eq_left', Option.some.injEq, reduceIte, Nat.reduceEqDiff, Nat.reduceLT, Nat.reduceLeDiff, Nat.reduceAdd, Nat.reduceSub, Nat.reduceMul, eq_self, ne_eq, and_imp, forall_const, reduceCtorEq, am_w, List.map_cons, List.map_nil, List.sum_cons, List.sum_nil, Value.category, Nat.zero_le, Nat.le_refl]
  exact ⟨_, ct_checkOf (p := 32 + o) (m := n) hk h3 (by omega) (by omega) (by omega), fun x k e => e⟩
theorem ct_sealHeader {tt : Nat → Nat} {h : am_H} {t b n o : Nat} (hk : tk_s tt h) (q : tp_n h t b n) (hn : 32 ≤ n) (ho : lt (am_A h b) 12 8 = Int64.ofNat o) (hl : 32 + o ≤ n) : am_Ct tt 79 [.ref t] h (am_pV (fun h' => h' = am_cA h b (lay (am_A h b) 28 (ck (am_A h b) (32 + o) (n - (32 + o))).toInt64 4)) no_x) := by
  refine vc_79_0 tt t h _ _ ?_
  simp (disch := omega) only [q.1.1, am_hs, qi_lt, qi_le, qi_eq, qi_nn, qi_in, qi_add, qi_l, ql_i, ql_lt, ql_le, ql_eq, ql_add, qc_lt, qc_eq, qc_ge, qc_gt, qc_le, true_and, and_true, and_self, true_or, or_true, false_or, or_false, false_and, and_false, not_true_eq_false, not_false_eq_true, Classical.not_not, true_implies, false_implies, implies_true, exists_eq_left, exists_eq_left', Option.some.injEq, reduceIte, Nat.reduceEqDiff, Nat.reduceLT, Nat.reduceLeDiff, Nat.reduceAdd, Nat.reduceSub, Nat.reduceMul, eq_self, ne_eq, and_imp, forall_const, reduceCtorEq, am_w, List.map_cons, List.map_nil, List.sum_cons, List.sum_nil, Value.category, Nat.zero_le, Nat.le_refl]
  refine ⟨_, _, ct_headerCheck hk q hn ho hl, fun x k e => ?_, fun _ _ z => z⟩
  obtain ⟨e1, e2⟩ := e
  subst e1 e2
  simp (disch := omega) only [q.1.1, am_hs, qi_lt, qi_le, qi_eq, qi_nn, qi_in, qi_add, qi_l, ql_i, ql_lt, ql_le, ql_eq, ql_add, qc_lt, qc_eq, qc_ge, qc_gt, qc_le, true_and, and_true, and_self, true_or, or_true, false_or, or_false, false_and, and_false, not_true_eq_false, not_false_eq_true, Classical.not_not, true_implies, false_implies, implies_true, exists_eq_left, exists_eq_left', Option.some.injEq, reduceIte, Nat.reduceEqDiff, Nat.reduceLT, Nat.reduceLeDiff, Nat.reduceAdd, Nat.reduceSub, Nat.reduceMul, eq_self, ne_eq, and_imp, forall_const, reduceCtorEq, am_w, List.map_cons, List.map_nil, List.sum_cons, List.sum_nil, Value.category, Nat.zero_le, Nat.le_refl]
  exact ⟨_, _, ct_setLittle (p := 28) (m := 4) q (by omega) (by omega), fun k e => e, fun _ _ z => z⟩
